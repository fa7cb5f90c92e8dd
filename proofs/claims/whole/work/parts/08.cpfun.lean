def f_CP_isPeer (M : cz_M) (a0 : Int32) : Option (Int32 × cz_M) :=
  (if a0 < 0 then (some ((0 : Int32), M))
  else ((if (4 : Int32) ≤ a0 then (some ((0 : Int32), M))
  else (some ((1 : Int32), M)))))
def f_Peer_startGreeting (M : cz_M) (a0 : Nat) : Option cz_M :=
  some (cz_i (cz_i (cz_i M a0 0 (1 : Int32)) a0 2 (0 : Int32)) a0 3 (0 : Int32))
def f_Bytes_add (M : cz_M) (a0 : Nat) (a1 : Int32) : Option cz_M :=
  (if (56 : Int32) ≤ (M.1 a0 1) then (some M)
  else ((if (M.1 a0 1) < 0 ∨ cp_ln (a0 + 1) ≤ (M.1 a0 1).toNatClampNeg then none else some (cz_i (cz_i M (a0 + 1) (M.1 a0 1).toNatClampNeg a1) a0 1 (((cz_i M (a0 + 1) (M.1 a0 1).toNatClampNeg a1).1 a0 1) + (1 : Int32))))))
def f_Bytes_beginList (M : cz_M) (a0 : Nat) : Option (Int32 × cz_M) :=
  (cz_bv (f_Bytes_add M a0 (192 : Int32)) (fun M9 => some (M.1 a0 1, M9)))
def f_Bytes_codeLength (M : cz_M) (a0 : Int32) : Option (Int32 × cz_M) :=
  (if (128 : Int32) ≤ a0 then ((if (256 : Int32) ≤ a0 then ((if (65536 : Int32) ≤ a0 then ((if (16777216 : Int32) ≤ a0 then (some ((5 : Int32), M))
  else (some ((4 : Int32), M))))
  else (some ((3 : Int32), M))))
  else (some ((2 : Int32), M))))
  else (some ((1 : Int32), M)))
def l_Bytes_addNumber_40 (a0 : Nat) (a1 : Int32) (rec40 : cz_M → Int32 → Option cz_M) (M : cz_M) (v3 : Int32) : Option cz_M :=
  (if v3 < 0 then (some M)
  else ((cz_bv (f_Bytes_add M a0 ((cz_iushr a1 ((8 : Int32) * v3)) &&& (255 : Int32))) (fun M55 => rec40 M55 (v3 - 1)))))
def b_Bytes_addNumber_23 (a0 : Nat) (a1 : Int32) (M : cz_M) (s0 : Int32) : Option cz_M :=
  (cz_bv (f_Bytes_add M a0 s0) (fun M23 => some M23))
def f_Bytes_addNumber (M : cz_M) (a0 : Nat) (a1 : Int32) : Option cz_M :=
  (cz_bi (f_Bytes_codeLength M a1) (fun r1 M1 => (if (r1 - (1 : Int32)) = 0 then ((if a1 = 0 then (b_Bytes_addNumber_23 a0 a1 M1 (128 : Int32))
  else (b_Bytes_addNumber_23 a0 a1 M1 a1)))
  else ((cz_bv (f_Bytes_add M1 a0 ((128 : Int32) + (r1 - (1 : Int32)))) (fun M33 => cz_lp2 (l_Bytes_addNumber_40 a0 a1) 100 M33 ((r1 - (1 : Int32)) - (1 : Int32))))))))
def f_Bytes_begin (M : cz_M) (a0 : Nat) (a1 : Int32) : Option cz_M :=
  (cz_bi (f_Bytes_beginList (cz_i M a0 1 (0 : Int32)) a0) (fun r6 M6 => (cz_bv (f_Bytes_addNumber M6 a0 a1) (fun M12 => some M12))))
def b_Blocks_head_38 (rec4 : cz_M → Int32 → Int32 → Option (Int32 × cz_M)) (M : cz_M) (v1 : Int32) (v2 : Int32) : Option (Int32 × cz_M) :=
  rec4 M v1 (v2 + 1)
def l_Blocks_head_4 (rec4 : cz_M → Int32 → Int32 → Option (Int32 × cz_M)) (M : cz_M) (v1 : Int32) (v2 : Int32) : Option (Int32 × cz_M) :=
  (if (M.1 19 7) ≤ v2 then (some (v1, M))
  else ((if v2 < 0 ∨ 20 ≤ v2.toNatClampNeg then none else (if (M.1 26 v2.toNatClampNeg) = 0 then (b_Blocks_head_38 rec4 M v1 v2)
  else ((if v2 < 0 ∨ cp_ln 23 ≤ v2.toNatClampNeg then none else (if v1 < 0 ∨ cp_ln 23 ≤ v1.toNatClampNeg then none else (if (M.1 23 v2.toNatClampNeg) ≤ (M.1 23 v1.toNatClampNeg) then (b_Blocks_head_38 rec4 M v1 v2)
  else (b_Blocks_head_38 rec4 M v2 v2)))))))))
def f_Blocks_head (M : cz_M) : Option (Int32 × cz_M) :=
  cz_lp3 (l_Blocks_head_4) 100 M (0 : Int32) (1 : Int32)
def f_Blocks_numberOf (M : cz_M) (a1 : Int32) : Option (Int32 × cz_M) :=
  (if a1 < 0 ∨ 20 ≤ a1.toNatClampNeg then none else (if (1 : Int32) < 0 ∨ cp_ln (69 + a1.toNatClampNeg) ≤ (1 : Int32).toNatClampNeg then none else some (M.1 (69 + a1.toNatClampNeg) (1 : Int32).toNatClampNeg, M)))
def f_Bytes_endList (M : cz_M) (a0 : Nat) (a1 : Int32) : Option cz_M :=
  (if a1 < 0 then (some M)
  else ((if (M.1 a0 1) ≤ a1 then (some M)
  else ((if a1 < 0 ∨ cp_ln (a0 + 1) ≤ a1.toNatClampNeg then none else some (cz_i M (a0 + 1) a1.toNatClampNeg ((((192 : Int32) + (M.1 a0 1)) - a1) - (1 : Int32))))))))
def f_Bytes_copyFrom (M : cz_M) (a0 : Nat) (a1 : Nat) : Option cz_M :=
  (if (0 : Int32) < 0 ∨ (0 : Int32) < 0 ∨ (56 : Int32) < 0 ∨ cp_ln (a1 + 1) < (0 : Int32).toNatClampNeg + (56 : Int32).toNatClampNeg ∨ cp_ln (a0 + 1) < (0 : Int32).toNatClampNeg + (56 : Int32).toNatClampNeg then none else some (cz_i (cz_a M (a0 + 1) (va_cpy (M.1 (a1 + 1)) (M.1 (a0 + 1)) (0 : Int32).toNatClampNeg (0 : Int32).toNatClampNeg (56 : Int32).toNatClampNeg)) a0 1 ((cz_a M (a0 + 1) (va_cpy (M.1 (a1 + 1)) (M.1 (a0 + 1)) (0 : Int32).toNatClampNeg (0 : Int32).toNatClampNeg (56 : Int32).toNatClampNeg)).1 a1 1)))
def f_Peer_addToOutbox (M : cz_M) (a0 : Nat) (a1 : Nat) : Option cz_M :=
  (if (4 : Int32) ≤ (M.1 a0 9) then (some M)
  else ((if (M.1 a0 9) < 0 ∨ 4 ≤ (M.1 a0 9).toNatClampNeg then none else (if cp_B (M.2 (a0 + 1) (M.1 a0 9).toNatClampNeg) then (cz_bv (f_Bytes_copyFrom M (M.2 (a0 + 1) (M.1 a0 9).toNatClampNeg) a1) (fun M18 => some (cz_i M18 a0 9 ((M18.1 a0 9) + (1 : Int32))))) else none))))
def f_CP_sendDraft (M : cz_M) (a1 : Nat) : Option cz_M :=
  (cz_bv (f_Bytes_endList M 12 (0 : Int32)) (fun M5 => (cz_bv (f_Peer_addToOutbox M5 a1 12) (fun M13 => some M13))))
def f_CP_sendHello (M : cz_M) (a1 : Nat) : Option cz_M :=
  (cz_bv (f_Bytes_begin M 12 (0 : Int32)) (fun M5 => (cz_bv (f_Bytes_addNumber M5 12 (M5.1 0 0)) (fun M16 => (cz_bi (f_Blocks_head M16) (fun r31 M31 => (cz_bi (f_Blocks_numberOf M31 r31) (fun r34 M34 => (cz_bv (f_Bytes_addNumber M34 12 r34) (fun M37 => (cz_bv (f_CP_sendDraft M37 a1) (fun M42 => some M42))))))))))))
def f_CP_open (M : cz_M) (a1 : Int32) : Option (Int32 × cz_M) :=
  (cz_bi (f_CP_isPeer M a1) (fun r1 M1 => (if r1 = 0 then (some ((0 : Int32), M1))
  else ((if a1 < 0 ∨ 4 ≤ a1.toNatClampNeg then none else (if (M1.1 (2 + 2 * a1.toNatClampNeg) 0) = 0 then ((if a1 < 0 ∨ 4 ≤ a1.toNatClampNeg then none else (cz_bv (f_Peer_startGreeting M1 (2 + 2 * a1.toNatClampNeg)) (fun M27 => (if a1 < 0 ∨ 4 ≤ a1.toNatClampNeg then none else (cz_bv (f_CP_sendHello M27 (2 + 2 * a1.toNatClampNeg)) (fun M37 => some ((1 : Int32), M37))))))))
  else (some ((0 : Int32), M1))))))))
def b_Peer_isTalking_16 (a0 : Nat) (M : cz_M) : Option (Int32 × cz_M) :=
  some ((1 : Int32), M)
def f_Peer_isTalking (M : cz_M) (a0 : Nat) : Option (Int32 × cz_M) :=
  (if (M.1 a0 0) = (1 : Int32) then (b_Peer_isTalking_16 a0 M)
  else ((if (M.1 a0 0) = (2 : Int32) then (b_Peer_isTalking_16 a0 M)
  else (some ((0 : Int32), M)))))
def f_Peer_dropRequest (M : cz_M) (a0 : Nat) : Option cz_M :=
  some (cz_i M a0 5 (0 : Int32))
def f_Peer_leave (M : cz_M) (a0 : Nat) (a1 : Int32) : Option cz_M :=
  (cz_bv (f_Peer_dropRequest (cz_i (cz_i M a0 0 a1) a0 9 (0 : Int32)) a0) (fun M11 => some M11))
def f_CP_close (M : cz_M) (a1 : Int32) : Option (Int32 × cz_M) :=
  (cz_bi (f_CP_isPeer M a1) (fun r1 M1 => (if r1 = 0 then (some ((0 : Int32), M1))
  else ((if a1 < 0 ∨ 4 ≤ a1.toNatClampNeg then none else (cz_bi (f_Peer_isTalking M1 (2 + 2 * a1.toNatClampNeg)) (fun r13 M13 => (if r13 = 0 then (some ((0 : Int32), M13))
  else ((if a1 < 0 ∨ 4 ≤ a1.toNatClampNeg then none else (cz_bv (f_Peer_leave M13 (2 + 2 * a1.toNatClampNeg) (0 : Int32)) (fun M28 => some ((1 : Int32), M28)))))))))))))
def l_CP_put_32 (a1 : Int32) (a2 : Int64) (rec32 : cz_M → Int32 → Option (Int32 × cz_M)) (M : cz_M) (v4 : Int32) : Option (Int32 × cz_M) :=
  (if v4 < 0 then (some ((1 : Int32), M))
  else ((cz_bv (f_Bytes_add M 10 (((cz_lushr a2 ((8 : Int32) * v4)).toInt32) &&& (255 : Int32))) (fun M53 => rec32 M53 (v4 - 1)))))
def f_CP_put (M : cz_M) (a1 : Int32) (a2 : Int64) : Option (Int32 × cz_M) :=
  (if a1 < (1 : Int32) then (some ((0 : Int32), M))
  else ((if (8 : Int32) < a1 then (some ((0 : Int32), M))
  else ((if ((M.1 10 1) + a1) ≤ (56 : Int32) then (cz_lp2 (l_CP_put_32 a1 a2) 100 M (a1 - (1 : Int32)))
  else (some ((0 : Int32), M)))))))
def f_CP_clear (M : cz_M) : Option cz_M :=
  some (cz_i M 10 1 (0 : Int32))
def f_Bytes_at (M : cz_M) (a0 : Nat) (a1 : Int32) : Option (Int32 × cz_M) :=
  (if a1 < 0 then (some ((-1 : Int32), M))
  else ((if (M.1 a0 1) ≤ a1 then (some ((-1 : Int32), M))
  else ((if a1 < 0 ∨ cp_ln (a0 + 1) ≤ a1.toNatClampNeg then none else some (M.1 (a0 + 1) a1.toNatClampNeg, M))))))
def f_CP_wire (M : cz_M) (a1 : Int32) : Option (Int32 × cz_M) :=
  (if a1 = (-1 : Int32) then (some (M.1 10 1, M))
  else ((cz_bi (f_Bytes_at M 10 a1) (fun r20 M20 => some (r20, M20)))))
def f_Message_enterList (M : cz_M) (a1 : Int32) : Option (Int32 × cz_M) :=
  (cz_bi (f_Bytes_at M 14 (M.1 16 11)) (fun r8 M8 => (if (r8 - (192 : Int32)) < 0 then (some ((-1 : Int32), M8))
  else ((if (55 : Int32) < (r8 - (192 : Int32)) then (some ((-1 : Int32), M8))
  else ((if ((M8.1 16 11) + (r8 - (192 : Int32))) < a1 then (some (((cz_i M8 16 11 ((M8.1 16 11) + (1 : Int32))).1 16 11) + (r8 - (192 : Int32)), cz_i M8 16 11 ((M8.1 16 11) + (1 : Int32))))
  else (some ((-1 : Int32), M8)))))))))
def b_Message_nextNumber_112 (a1 : Int32) (M : cz_M) (v3 : Int32) (w4 : Int64) : Option (Int32 × cz_M) :=
  (if 0 < (lg_cmp w4 (2147483647 : Int64)) then (some ((-1 : Int32), M))
  else ((cz_bi (f_Bytes_codeLength M w4.toInt32) (fun r124 M124 => (if r124 = ((1 : Int32) + v3) then (some (w4.toInt32, cz_i M124 16 11 ((M124.1 16 11) + ((1 : Int32) + v3))))
  else (some ((-1 : Int32), M124)))))))
def l_Message_nextNumber_76 (a1 : Int32) (rec76 : cz_M → Int32 → Int64 → Int32 → Option (Int32 × cz_M)) (M : cz_M) (v3 : Int32) (w4 : Int64) (v6 : Int32) : Option (Int32 × cz_M) :=
  (if v3 < v6 then (b_Message_nextNumber_112 a1 M v3 w4)
  else ((cz_bi (f_Bytes_at M 14 ((M.1 16 11) + v6)) (fun r99 M99 => rec76 M99 v3 ((w4 * (256 : Int64)) + r99.toInt64) (v6 + 1)))))
def b_Message_nextNumber_43 (a1 : Int32) (M : cz_M) (v2 : Int32) : Option (Int32 × cz_M) :=
  (if (v2 - (128 : Int32)) < 0 then (some ((-1 : Int32), M))
  else ((if (4 : Int32) < (v2 - (128 : Int32)) then (some ((-1 : Int32), M))
  else ((if ((M.1 16 11) + (v2 - (128 : Int32))) < a1 then (cz_lp4 (l_Message_nextNumber_76 a1) 100 M (v2 - (128 : Int32)) (0 : Int64) (1 : Int32))
  else (some ((-1 : Int32), M)))))))
def f_Message_nextNumber (M : cz_M) (a1 : Int32) : Option (Int32 × cz_M) :=
  (cz_bi (f_Bytes_at M 14 (M.1 16 11)) (fun r8 M8 => (if r8 ≤ 0 then (b_Message_nextNumber_43 a1 M8 r8)
  else ((if (128 : Int32) ≤ r8 then (b_Message_nextNumber_43 a1 M8 r8)
  else ((if a1 ≤ (M8.1 16 11) then (b_Message_nextNumber_43 a1 M8 r8)
  else (some (r8, cz_i M8 16 11 ((M8.1 16 11) + (1 : Int32)))))))))))
def b_Message_parseHeader_40 (a1 : Nat) (a2 : Int32) (M : cz_M) (v3 : Int32) : Option (Int32 × cz_M) :=
  (if (M.1 16 11) = v3 then (some ((1 : Int32), M))
  else (some ((0 : Int32), M)))
def l_Message_parseHeader_9 (a1 : Nat) (a2 : Int32) (rec9 : cz_M → Int32 → Int32 → Option (Int32 × cz_M)) (M : cz_M) (v3 : Int32) (v4 : Int32) : Option (Int32 × cz_M) :=
  (if (5 : Int32) ≤ v4 then (b_Message_parseHeader_40 a1 a2 M v3)
  else ((cz_bi (f_Message_nextNumber M v3) (fun r20 M20 => (if v4 < 0 ∨ cp_ln a1 ≤ v4.toNatClampNeg then none else (if v4 < 0 ∨ cp_ln a1 ≤ v4.toNatClampNeg then none else (if ((cz_i M20 a1 v4.toNatClampNeg r20).1 a1 v4.toNatClampNeg) = (-1 : Int32) then (some ((0 : Int32), cz_i M20 a1 v4.toNatClampNeg r20))
  else (rec9 (cz_i M20 a1 v4.toNatClampNeg r20) v3 (v4 + 1)))))))))
def f_Message_parseHeader (M : cz_M) (a1 : Nat) (a2 : Int32) : Option (Int32 × cz_M) :=
  (cz_bi (f_Message_enterList M a2) (fun r2 M2 => cz_lp3 (l_Message_parseHeader_9 a1 a2) 100 M2 r2 (0 : Int32)))
def b_Message_parseHeaders_60 (a1 : Int32) (M : cz_M) (v2 : Int32) : Option (Int32 × cz_M) :=
  (if (M.1 16 11) = v2 then (some ((1 : Int32), M))
  else (some ((0 : Int32), M)))
def l_Message_parseHeaders_11 (a1 : Int32) (rec11 : cz_M → Int32 → Option (Int32 × cz_M)) (M : cz_M) (v2 : Int32) : Option (Int32 × cz_M) :=
  (if (8 : Int32) ≤ (M.1 16 7) then (b_Message_parseHeaders_60 a1 M v2)
  else ((if v2 ≤ (M.1 16 11) then (b_Message_parseHeaders_60 a1 M v2)
  else ((if (M.1 16 7) < 0 ∨ 8 ≤ (M.1 16 7).toNatClampNeg then none else (cz_bi (f_Message_parseHeader M (61 + (M.1 16 7).toNatClampNeg) v2) (fun r39 M39 => (if r39 = 0 then (some ((0 : Int32), M39))
  else (rec11 (cz_i M39 16 7 ((M39.1 16 7) + (1 : Int32))) v2)))))))))
def f_Message_parseHeaders (M : cz_M) (a1 : Int32) : Option (Int32 × cz_M) :=
  (cz_bi (f_Message_enterList M a1) (fun r2 M2 => cz_lp2 (l_Message_parseHeaders_11 a1) 100 (cz_i M2 16 7 (0 : Int32)) r2))
def b_Message_parseBody_70 (a1 : Int32) (M : cz_M) (v2 : Int32) : Option (Int32 × cz_M) :=
  (if (M.1 16 11) = v2 then (some ((1 : Int32), M))
  else (some ((0 : Int32), M)))
def l_Message_parseBody_11 (a1 : Int32) (rec11 : cz_M → Int32 → Option (Int32 × cz_M)) (M : cz_M) (v2 : Int32) : Option (Int32 × cz_M) :=
  (if (8 : Int32) ≤ (M.1 16 7) then (b_Message_parseBody_70 a1 M v2)
  else ((if v2 ≤ (M.1 16 11) then (b_Message_parseBody_70 a1 M v2)
  else ((cz_bi (f_Message_nextNumber M v2) (fun r38 M38 => (if (M.1 16 7) < 0 ∨ cp_ln 18 ≤ (M.1 16 7).toNatClampNeg then none else (if ((cz_i M38 18 (M.1 16 7).toNatClampNeg r38).1 16 7) < 0 ∨ cp_ln 18 ≤ ((cz_i M38 18 (M.1 16 7).toNatClampNeg r38).1 16 7).toNatClampNeg then none else (if ((cz_i M38 18 (M.1 16 7).toNatClampNeg r38).1 18 ((cz_i M38 18 (M.1 16 7).toNatClampNeg r38).1 16 7).toNatClampNeg) = (-1 : Int32) then (some ((0 : Int32), cz_i M38 18 (M.1 16 7).toNatClampNeg r38))
  else (rec11 (cz_i (cz_i M38 18 (M.1 16 7).toNatClampNeg r38) 16 7 (((cz_i M38 18 (M.1 16 7).toNatClampNeg r38).1 16 7) + (1 : Int32))) v2))))))))))
def f_Message_parseBody (M : cz_M) (a1 : Int32) : Option (Int32 × cz_M) :=
  (cz_bi (f_Message_enterList M a1) (fun r2 M2 => cz_lp2 (l_Message_parseBody_11 a1) 100 (cz_i M2 16 7 (0 : Int32)) r2))
def f_Message_parseFields (M : cz_M) (a1 : Int32) : Option (Int32 × cz_M) :=
  (if (M.1 16 0) = (0 : Int32) then ((cz_bi (f_Message_nextNumber M a1) (fun r47 M47 => (cz_bi (f_Message_nextNumber (cz_i M47 16 1 r47) a1) (fun r56 M56 => (if ((cz_i M56 16 2 r56).1 16 1) = (-1 : Int32) then (some ((0 : Int32), cz_i M56 16 2 r56))
  else ((if ((cz_i M56 16 2 r56).1 16 2) = (-1 : Int32) then (some ((0 : Int32), cz_i M56 16 2 r56))
  else (some ((1 : Int32), cz_i M56 16 2 r56))))))))))
  else (if (M.1 16 0) = (1 : Int32) then ((cz_bi (f_Message_nextNumber M a1) (fun r87 M87 => (cz_bi (f_Message_nextNumber (cz_i M87 16 3 r87) a1) (fun r96 M96 => (cz_bi (f_Message_nextNumber (cz_i M96 16 4 r96) a1) (fun r105 M105 => (if ((cz_i M105 16 5 r105).1 16 3) = (-1 : Int32) then (some ((0 : Int32), cz_i M105 16 5 r105))
  else ((if ((cz_i M105 16 5 r105).1 16 4) = (-1 : Int32) then (some ((0 : Int32), cz_i M105 16 5 r105))
  else ((if ((cz_i M105 16 5 r105).1 16 5) = (-1 : Int32) then (some ((0 : Int32), cz_i M105 16 5 r105))
  else (some ((1 : Int32), cz_i M105 16 5 r105))))))))))))))
  else (if (M.1 16 0) = (2 : Int32) then ((cz_bi (f_Message_nextNumber M a1) (fun r144 M144 => (if ((cz_i M144 16 3 r144).1 16 3) = (-1 : Int32) then (some ((0 : Int32), cz_i M144 16 3 r144))
  else ((cz_bi (f_Message_parseHeaders (cz_i M144 16 3 r144) a1) (fun r160 M160 => (if r160 = 0 then (some ((0 : Int32), M160))
  else (some ((1 : Int32), M160))))))))))
  else (if (M.1 16 0) = (3 : Int32) then ((cz_bi (f_Message_nextNumber M a1) (fun r175 M175 => (cz_bi (f_Message_nextNumber (cz_i M175 16 3 r175) a1) (fun r184 M184 => (if ((cz_i M184 16 6 r184).1 16 3) = (-1 : Int32) then (some ((0 : Int32), cz_i M184 16 6 r184))
  else ((if ((cz_i M184 16 6 r184).1 16 6) = (-1 : Int32) then (some ((0 : Int32), cz_i M184 16 6 r184))
  else (some ((1 : Int32), cz_i M184 16 6 r184))))))))))
  else (if (M.1 16 0) = (4 : Int32) then ((cz_bi (f_Message_nextNumber M a1) (fun r215 M215 => (if ((cz_i M215 16 3 r215).1 16 3) = (-1 : Int32) then (some ((0 : Int32), cz_i M215 16 3 r215))
  else ((cz_bi (f_Message_parseBody (cz_i M215 16 3 r215) a1) (fun r231 M231 => (if r231 = 0 then (some ((0 : Int32), M231))
  else (some ((1 : Int32), M231))))))))))
  else (if (M.1 16 0) = (5 : Int32) then (some ((1 : Int32), M))
  else (some ((0 : Int32), M))))))))
def f_Message_parse (M : cz_M) (a1 : Nat) : Option (Int32 × cz_M) :=
  (cz_bv (f_Bytes_copyFrom M 14 a1) (fun M5 => (cz_bi (f_Message_enterList (cz_i M5 16 11 (0 : Int32)) ((cz_i M5 16 11 (0 : Int32)).1 14 1)) (fun r21 M21 => (if r21 = (M21.1 14 1) then ((cz_bi (f_Message_nextNumber M21 r21) (fun r41 M41 => (cz_bi (f_Message_parseFields (cz_i M41 16 0 r41) r21) (fun r49 M49 => (if r49 = 0 then (some ((0 : Int32), M49))
  else ((if (M49.1 16 11) = r21 then (some ((1 : Int32), M49))
  else (some ((0 : Int32), M49))))))))))
  else (some ((0 : Int32), M21)))))))
def f_Peer_fault (M : cz_M) (a0 : Nat) (a1 : Int32) : Option cz_M :=
  (if (-3 : Int32) ≤ ((cz_i M a0 1 ((M.1 a0 1) - a1)).1 a0 1) then (some (cz_i M a0 1 ((M.1 a0 1) - a1)))
  else ((cz_bv (f_Peer_leave (cz_i M a0 1 ((M.1 a0 1) - a1)) a0 (3 : Int32)) (fun M21 => some M21))))
def f_CP_greet (M : cz_M) (a1 : Nat) : Option cz_M :=
  (if (M.1 16 1) = (M.1 0 0) then (some (cz_i (cz_i M a1 0 (2 : Int32)) a1 2 ((cz_i M a1 0 (2 : Int32)).1 16 2)))
  else ((cz_bv (f_Peer_leave M a1 (0 : Int32)) (fun M35 => some M35))))
def f_CP_readGreeting (M : cz_M) (a1 : Nat) : Option (Int32 × cz_M) :=
  (if (M.1 16 0) = (0 : Int32) then ((cz_bv (f_CP_greet M a1) (fun M34 => some ((0 : Int32), M34))))
  else (if (M.1 16 0) = (5 : Int32) then ((cz_bv (f_Peer_leave M a1 (0 : Int32)) (fun M41 => some ((0 : Int32), M41))))
  else (some ((2 : Int32), M))))
def l_Blocks_ancestor_11 (a1 : Int32) (a2 : Int32) (rec11 : cz_M → Int32 → Int32 → Option (Int32 × cz_M)) (M : cz_M) (v3 : Int32) (v4 : Int32) : Option (Int32 × cz_M) :=
  (if v4 ≤ 0 then (some (v3, M))
  else ((if v3 < 0 ∨ cp_ln 22 ≤ v3.toNatClampNeg then none else rec11 M (M.1 22 v3.toNatClampNeg) (v4 - 1))))
def f_Blocks_ancestor (M : cz_M) (a1 : Int32) (a2 : Int32) : Option (Int32 × cz_M) :=
  (cz_bi (f_Blocks_numberOf M a1) (fun r4 M4 => cz_lp3 (l_Blocks_ancestor_11 a1 a2) 100 M4 a1 (r4 - a2)))
def b_Bytes_addHeader_25 (a0 : Nat) (a1 : Nat) (M : cz_M) (v2 : Int32) : Option cz_M :=
  (cz_bv (f_Bytes_endList M a0 v2) (fun M27 => some M27))
def l_Bytes_addHeader_7 (a0 : Nat) (a1 : Nat) (rec7 : cz_M → Int32 → Int32 → Option cz_M) (M : cz_M) (v2 : Int32) (v3 : Int32) : Option cz_M :=
  (if (5 : Int32) ≤ v3 then (b_Bytes_addHeader_25 a0 a1 M v2)
  else ((if v3 < 0 ∨ cp_ln a1 ≤ v3.toNatClampNeg then none else (cz_bv (f_Bytes_addNumber M a0 (M.1 a1 v3.toNatClampNeg)) (fun M16 => rec7 M16 v2 (v3 + 1))))))
def f_Bytes_addHeader (M : cz_M) (a0 : Nat) (a1 : Nat) : Option cz_M :=
  (cz_bi (f_Bytes_beginList M a0) (fun r1 M1 => cz_lp3 (l_Bytes_addHeader_7 a0 a1) 100 M1 r1 (0 : Int32)))
def b_CP_sendHeaders_131 (a1 : Nat) (M : cz_M) (v2 : Int32) : Option cz_M :=
  (cz_bv (f_Bytes_endList M 12 v2) (fun M136 => (cz_bv (f_CP_sendDraft M136 a1) (fun M141 => some M141))))
def l_CP_sendHeaders_74 (a1 : Nat) (rec74 : cz_M → Int32 → Int32 → Int32 → Int32 → Int32 → Option cz_M) (M : cz_M) (v2 : Int32) (v3 : Int32) (v4 : Int32) (v5 : Int32) (v6 : Int32) : Option cz_M :=
  (if v4 ≤ v6 then (b_CP_sendHeaders_131 a1 M v2)
  else ((if v5 ≤ v6 then (b_CP_sendHeaders_131 a1 M v2)
  else ((cz_bi (f_Blocks_ancestor M v3 ((M.1 16 4) + v6)) (fun r103 M103 => (if r103 < 0 ∨ 20 ≤ r103.toNatClampNeg then none else (cz_bv (f_Bytes_addHeader M103 12 (69 + r103.toNatClampNeg)) (fun M122 => rec74 M122 v2 v3 v4 v5 (v6 + 1))))))))))
def f_CP_sendHeaders (M : cz_M) (a1 : Nat) : Option cz_M :=
  (cz_bv (f_Bytes_begin M 12 (2 : Int32)) (fun M5 => (cz_bv (f_Bytes_addNumber M5 12 (M5.1 16 3)) (fun M19 => (cz_bi (f_Bytes_beginList M19 12) (fun r26 M26 => (cz_bi (f_Blocks_head M26) (fun r34 M34 => (cz_bi (f_Blocks_numberOf M34 r34) (fun r56 M56 => cz_lp6 (l_CP_sendHeaders_74 a1) 100 M56 r26 r34 (cz_min (M34.1 16 5) (2 : Int32)) ((r56 - (M56.1 16 4)) + (1 : Int32)) (0 : Int32)))))))))))
def f_Peer_wasAsked (M : cz_M) (a0 : Nat) (a1 : Int32) (a2 : Int32) : Option (Int32 × cz_M) :=
  (if (M.1 a0 5) = 0 then (some ((0 : Int32), M))
  else ((if (M.1 a0 5) = a2 then ((if (M.1 a0 4) = a1 then (some ((1 : Int32), M))
  else (some ((0 : Int32), M))))
  else (some ((0 : Int32), M)))))
def l_CP_mix_5 (a0 : Int32) (a1 : Nat) (a2 : Int32) (rec5 : cz_M → Int32 → Int32 → Option (Int32 × cz_M)) (M : cz_M) (v3 : Int32) (v4 : Int32) : Option (Int32 × cz_M) :=
  (if a2 ≤ v4 then (some (v3, M))
  else ((if (Int32.ofNat (cp_ln a1)) ≤ v4 then (some (v3, M))
  else ((if v4 < 0 ∨ cp_ln a1 ≤ v4.toNatClampNeg then none else rec5 M ((((v3 ^^^ (M.1 a1 v4.toNatClampNeg)) * (16777619 : Int32)) ^^^ (cz_iushr ((v3 ^^^ (M.1 a1 v4.toNatClampNeg)) * (16777619 : Int32)) (15 : Int32))) &&& (2147483647 : Int32)) (v4 + 1))))))
def f_CP_mix (M : cz_M) (a0 : Int32) (a1 : Nat) (a2 : Int32) : Option (Int32 × cz_M) :=
  cz_lp3 (l_CP_mix_5 a0 a1 a2) 100 M a0 (0 : Int32)
def f_CP_hashOf (M : cz_M) (a0 : Nat) : Option (Int32 × cz_M) :=
  (cz_bi (f_CP_mix M (7 : Int32) a0 (5 : Int32)) (fun r4 M4 => some (r4, M4)))
def l_Blocks_find_2 (a1 : Int32) (rec2 : cz_M → Int32 → Option (Int32 × cz_M)) (M : cz_M) (v2 : Int32) : Option (Int32 × cz_M) :=
  (if (M.1 19 7) ≤ v2 then (some ((-1 : Int32), M))
  else ((if v2 < 0 ∨ cp_ln 21 ≤ v2.toNatClampNeg then none else (if (M.1 21 v2.toNatClampNeg) = a1 then (some (v2, M))
  else (rec2 M (v2 + 1))))))
def f_Blocks_find (M : cz_M) (a1 : Int32) : Option (Int32 × cz_M) :=
  cz_lp2 (l_Blocks_find_2 a1) 100 M (0 : Int32)
def f_Blocks_isKnown (M : cz_M) (a1 : Int32) : Option (Int32 × cz_M) :=
  (cz_bi (f_Blocks_find M a1) (fun r2 M2 => (if r2 = (-1 : Int32) then (some ((0 : Int32), M2))
  else (some ((1 : Int32), M2)))))
def f_Blocks_isGood (M : cz_M) (a1 : Nat) : Option (Int32 × cz_M) :=
  (if (0 : Int32) < 0 ∨ cp_ln a1 ≤ (0 : Int32).toNatClampNeg then none else (cz_bi (f_Blocks_find M (M.1 a1 (0 : Int32).toNatClampNeg)) (fun r4 M4 => (if r4 = (-1 : Int32) then (some ((0 : Int32), M4))
  else ((if (3 : Int32) < 0 ∨ cp_ln a1 ≤ (3 : Int32).toNatClampNeg then none else (if r4 < 0 ∨ 20 ≤ r4.toNatClampNeg then none else (if (3 : Int32) < 0 ∨ cp_ln (69 + r4.toNatClampNeg) ≤ (3 : Int32).toNatClampNeg then none else (if (1 : Int32) < 0 ∨ cp_ln a1 ≤ (1 : Int32).toNatClampNeg then none else (cz_bi (f_Blocks_numberOf M4 r4) (fun r34 M34 => (if (M4.1 a1 (1 : Int32).toNatClampNeg) = (r34 + (1 : Int32)) then ((if (2 : Int32) < 0 ∨ cp_ln a1 ≤ (2 : Int32).toNatClampNeg then none else (if r4 < 0 ∨ 20 ≤ r4.toNatClampNeg then none else (if (2 : Int32) < 0 ∨ cp_ln (69 + r4.toNatClampNeg) ≤ (2 : Int32).toNatClampNeg then none else (if (M34.1 a1 (2 : Int32).toNatClampNeg) ≤ (M34.1 (69 + r4.toNatClampNeg) (2 : Int32).toNatClampNeg) then (some ((0 : Int32), M34))
  else ((if (M4.1 a1 (3 : Int32).toNatClampNeg) < (1 : Int32) then (some ((0 : Int32), M34))
  else ((if (99 : Int32) < (M4.1 a1 (3 : Int32).toNatClampNeg) then (some ((0 : Int32), M34))
  else ((if (((M4.1 (69 + r4.toNatClampNeg) (3 : Int32).toNatClampNeg) / (4 : Int32)) + (1 : Int32)) < (cz_abs ((M4.1 a1 (3 : Int32).toNatClampNeg) - (M4.1 (69 + r4.toNatClampNeg) (3 : Int32).toNatClampNeg))) then (some ((0 : Int32), M34))
  else (some ((1 : Int32), M34)))))))))))))
  else (some ((0 : Int32), M34))))))))))))))
def f_Blocks_isFull (M : cz_M) : Option (Int32 × cz_M) :=
  (if (M.1 19 7) < (20 : Int32) then (some ((0 : Int32), M))
  else (some ((1 : Int32), M)))
def f_Blocks_append (M : cz_M) (a1 : Nat) : Option cz_M :=
  (if (0 : Int32) < 0 ∨ cp_ln a1 ≤ (0 : Int32).toNatClampNeg then none else (cz_bi (f_Blocks_find M (M.1 a1 (0 : Int32).toNatClampNeg)) (fun r4 M4 => (cz_bi (f_Blocks_isFull M4) (fun r9 M9 => (if r9 = 0 then ((if r4 = (-1 : Int32) then (some M9)
  else ((if (M9.1 19 7) < 0 ∨ 20 ≤ (M9.1 19 7).toNatClampNeg then none else (if (0 : Int32) < 0 ∨ (0 : Int32) < 0 ∨ (5 : Int32) < 0 ∨ cp_ln a1 < (0 : Int32).toNatClampNeg + (5 : Int32).toNatClampNeg ∨ cp_ln (69 + (M9.1 19 7).toNatClampNeg) < (0 : Int32).toNatClampNeg + (5 : Int32).toNatClampNeg then none else (cz_bi (f_CP_hashOf (cz_a M9 (69 + (M9.1 19 7).toNatClampNeg) (va_cpy (M9.1 a1) (M9.1 (69 + (M9.1 19 7).toNatClampNeg)) (0 : Int32).toNatClampNeg (0 : Int32).toNatClampNeg (5 : Int32).toNatClampNeg)) a1) (fun r46 M46 => (if ((cz_a M9 (69 + (M9.1 19 7).toNatClampNeg) (va_cpy (M9.1 a1) (M9.1 (69 + (M9.1 19 7).toNatClampNeg)) (0 : Int32).toNatClampNeg (0 : Int32).toNatClampNeg (5 : Int32).toNatClampNeg)).1 19 7) < 0 ∨ cp_ln 21 ≤ ((cz_a M9 (69 + (M9.1 19 7).toNatClampNeg) (va_cpy (M9.1 a1) (M9.1 (69 + (M9.1 19 7).toNatClampNeg)) (0 : Int32).toNatClampNeg (0 : Int32).toNatClampNeg (5 : Int32).toNatClampNeg)).1 19 7).toNatClampNeg then none else (if ((cz_i M46 21 ((cz_a M9 (69 + (M9.1 19 7).toNatClampNeg) (va_cpy (M9.1 a1) (M9.1 (69 + (M9.1 19 7).toNatClampNeg)) (0 : Int32).toNatClampNeg (0 : Int32).toNatClampNeg (5 : Int32).toNatClampNeg)).1 19 7).toNatClampNeg r46).1 19 7) < 0 ∨ cp_ln 22 ≤ ((cz_i M46 21 ((cz_a M9 (69 + (M9.1 19 7).toNatClampNeg) (va_cpy (M9.1 a1) (M9.1 (69 + (M9.1 19 7).toNatClampNeg)) (0 : Int32).toNatClampNeg (0 : Int32).toNatClampNeg (5 : Int32).toNatClampNeg)).1 19 7).toNatClampNeg r46).1 19 7).toNatClampNeg then none else (if r4 < 0 ∨ cp_ln 23 ≤ r4.toNatClampNeg then none else (if (3 : Int32) < 0 ∨ cp_ln a1 ≤ (3 : Int32).toNatClampNeg then none else (if ((cz_i (cz_i M46 21 ((cz_a M9 (69 + (M9.1 19 7).toNatClampNeg) (va_cpy (M9.1 a1) (M9.1 (69 + (M9.1 19 7).toNatClampNeg)) (0 : Int32).toNatClampNeg (0 : Int32).toNatClampNeg (5 : Int32).toNatClampNeg)).1 19 7).toNatClampNeg r46) 22 ((cz_i M46 21 ((cz_a M9 (69 + (M9.1 19 7).toNatClampNeg) (va_cpy (M9.1 a1) (M9.1 (69 + (M9.1 19 7).toNatClampNeg)) (0 : Int32).toNatClampNeg (0 : Int32).toNatClampNeg (5 : Int32).toNatClampNeg)).1 19 7).toNatClampNeg r46).1 19 7).toNatClampNeg r4).1 19 7) < 0 ∨ cp_ln 23 ≤ ((cz_i (cz_i M46 21 ((cz_a M9 (69 + (M9.1 19 7).toNatClampNeg) (va_cpy (M9.1 a1) (M9.1 (69 + (M9.1 19 7).toNatClampNeg)) (0 : Int32).toNatClampNeg (0 : Int32).toNatClampNeg (5 : Int32).toNatClampNeg)).1 19 7).toNatClampNeg r46) 22 ((cz_i M46 21 ((cz_a M9 (69 + (M9.1 19 7).toNatClampNeg) (va_cpy (M9.1 a1) (M9.1 (69 + (M9.1 19 7).toNatClampNeg)) (0 : Int32).toNatClampNeg (0 : Int32).toNatClampNeg (5 : Int32).toNatClampNeg)).1 19 7).toNatClampNeg r46).1 19 7).toNatClampNeg r4).1 19 7).toNatClampNeg then none else (if ((cz_i (cz_i (cz_i M46 21 ((cz_a M9 (69 + (M9.1 19 7).toNatClampNeg) (va_cpy (M9.1 a1) (M9.1 (69 + (M9.1 19 7).toNatClampNeg)) (0 : Int32).toNatClampNeg (0 : Int32).toNatClampNeg (5 : Int32).toNatClampNeg)).1 19 7).toNatClampNeg r46) 22 ((cz_i M46 21 ((cz_a M9 (69 + (M9.1 19 7).toNatClampNeg) (va_cpy (M9.1 a1) (M9.1 (69 + (M9.1 19 7).toNatClampNeg)) (0 : Int32).toNatClampNeg (0 : Int32).toNatClampNeg (5 : Int32).toNatClampNeg)).1 19 7).toNatClampNeg r46).1 19 7).toNatClampNeg r4) 23 ((cz_i (cz_i M46 21 ((cz_a M9 (69 + (M9.1 19 7).toNatClampNeg) (va_cpy (M9.1 a1) (M9.1 (69 + (M9.1 19 7).toNatClampNeg)) (0 : Int32).toNatClampNeg (0 : Int32).toNatClampNeg (5 : Int32).toNatClampNeg)).1 19 7).toNatClampNeg r46) 22 ((cz_i M46 21 ((cz_a M9 (69 + (M9.1 19 7).toNatClampNeg) (va_cpy (M9.1 a1) (M9.1 (69 + (M9.1 19 7).toNatClampNeg)) (0 : Int32).toNatClampNeg (0 : Int32).toNatClampNeg (5 : Int32).toNatClampNeg)).1 19 7).toNatClampNeg r46).1 19 7).toNatClampNeg r4).1 19 7).toNatClampNeg (((cz_i (cz_i M46 21 ((cz_a M9 (69 + (M9.1 19 7).toNatClampNeg) (va_cpy (M9.1 a1) (M9.1 (69 + (M9.1 19 7).toNatClampNeg)) (0 : Int32).toNatClampNeg (0 : Int32).toNatClampNeg (5 : Int32).toNatClampNeg)).1 19 7).toNatClampNeg r46) 22 ((cz_i M46 21 ((cz_a M9 (69 + (M9.1 19 7).toNatClampNeg) (va_cpy (M9.1 a1) (M9.1 (69 + (M9.1 19 7).toNatClampNeg)) (0 : Int32).toNatClampNeg (0 : Int32).toNatClampNeg (5 : Int32).toNatClampNeg)).1 19 7).toNatClampNeg r46).1 19 7).toNatClampNeg r4).1 23 r4.toNatClampNeg) + ((cz_i (cz_i M46 21 ((cz_a M9 (69 + (M9.1 19 7).toNatClampNeg) (va_cpy (M9.1 a1) (M9.1 (69 + (M9.1 19 7).toNatClampNeg)) (0 : Int32).toNatClampNeg (0 : Int32).toNatClampNeg (5 : Int32).toNatClampNeg)).1 19 7).toNatClampNeg r46) 22 ((cz_i M46 21 ((cz_a M9 (69 + (M9.1 19 7).toNatClampNeg) (va_cpy (M9.1 a1) (M9.1 (69 + (M9.1 19 7).toNatClampNeg)) (0 : Int32).toNatClampNeg (0 : Int32).toNatClampNeg (5 : Int32).toNatClampNeg)).1 19 7).toNatClampNeg r46).1 19 7).toNatClampNeg r4).1 a1 (3 : Int32).toNatClampNeg))).1 19 7) < 0 ∨ cp_ln 25 ≤ ((cz_i (cz_i (cz_i M46 21 ((cz_a M9 (69 + (M9.1 19 7).toNatClampNeg) (va_cpy (M9.1 a1) (M9.1 (69 + (M9.1 19 7).toNatClampNeg)) (0 : Int32).toNatClampNeg (0 : Int32).toNatClampNeg (5 : Int32).toNatClampNeg)).1 19 7).toNatClampNeg r46) 22 ((cz_i M46 21 ((cz_a M9 (69 + (M9.1 19 7).toNatClampNeg) (va_cpy (M9.1 a1) (M9.1 (69 + (M9.1 19 7).toNatClampNeg)) (0 : Int32).toNatClampNeg (0 : Int32).toNatClampNeg (5 : Int32).toNatClampNeg)).1 19 7).toNatClampNeg r46).1 19 7).toNatClampNeg r4) 23 ((cz_i (cz_i M46 21 ((cz_a M9 (69 + (M9.1 19 7).toNatClampNeg) (va_cpy (M9.1 a1) (M9.1 (69 + (M9.1 19 7).toNatClampNeg)) (0 : Int32).toNatClampNeg (0 : Int32).toNatClampNeg (5 : Int32).toNatClampNeg)).1 19 7).toNatClampNeg r46) 22 ((cz_i M46 21 ((cz_a M9 (69 + (M9.1 19 7).toNatClampNeg) (va_cpy (M9.1 a1) (M9.1 (69 + (M9.1 19 7).toNatClampNeg)) (0 : Int32).toNatClampNeg (0 : Int32).toNatClampNeg (5 : Int32).toNatClampNeg)).1 19 7).toNatClampNeg r46).1 19 7).toNatClampNeg r4).1 19 7).toNatClampNeg (((cz_i (cz_i M46 21 ((cz_a M9 (69 + (M9.1 19 7).toNatClampNeg) (va_cpy (M9.1 a1) (M9.1 (69 + (M9.1 19 7).toNatClampNeg)) (0 : Int32).toNatClampNeg (0 : Int32).toNatClampNeg (5 : Int32).toNatClampNeg)).1 19 7).toNatClampNeg r46) 22 ((cz_i M46 21 ((cz_a M9 (69 + (M9.1 19 7).toNatClampNeg) (va_cpy (M9.1 a1) (M9.1 (69 + (M9.1 19 7).toNatClampNeg)) (0 : Int32).toNatClampNeg (0 : Int32).toNatClampNeg (5 : Int32).toNatClampNeg)).1 19 7).toNatClampNeg r46).1 19 7).toNatClampNeg r4).1 23 r4.toNatClampNeg) + ((cz_i (cz_i M46 21 ((cz_a M9 (69 + (M9.1 19 7).toNatClampNeg) (va_cpy (M9.1 a1) (M9.1 (69 + (M9.1 19 7).toNatClampNeg)) (0 : Int32).toNatClampNeg (0 : Int32).toNatClampNeg (5 : Int32).toNatClampNeg)).1 19 7).toNatClampNeg r46) 22 ((cz_i M46 21 ((cz_a M9 (69 + (M9.1 19 7).toNatClampNeg) (va_cpy (M9.1 a1) (M9.1 (69 + (M9.1 19 7).toNatClampNeg)) (0 : Int32).toNatClampNeg (0 : Int32).toNatClampNeg (5 : Int32).toNatClampNeg)).1 19 7).toNatClampNeg r46).1 19 7).toNatClampNeg r4).1 a1 (3 : Int32).toNatClampNeg))).1 19 7).toNatClampNeg then none else some (cz_i (cz_i (cz_i (cz_i (cz_i M46 21 ((cz_a M9 (69 + (M9.1 19 7).toNatClampNeg) (va_cpy (M9.1 a1) (M9.1 (69 + (M9.1 19 7).toNatClampNeg)) (0 : Int32).toNatClampNeg (0 : Int32).toNatClampNeg (5 : Int32).toNatClampNeg)).1 19 7).toNatClampNeg r46) 22 ((cz_i M46 21 ((cz_a M9 (69 + (M9.1 19 7).toNatClampNeg) (va_cpy (M9.1 a1) (M9.1 (69 + (M9.1 19 7).toNatClampNeg)) (0 : Int32).toNatClampNeg (0 : Int32).toNatClampNeg (5 : Int32).toNatClampNeg)).1 19 7).toNatClampNeg r46).1 19 7).toNatClampNeg r4) 23 ((cz_i (cz_i M46 21 ((cz_a M9 (69 + (M9.1 19 7).toNatClampNeg) (va_cpy (M9.1 a1) (M9.1 (69 + (M9.1 19 7).toNatClampNeg)) (0 : Int32).toNatClampNeg (0 : Int32).toNatClampNeg (5 : Int32).toNatClampNeg)).1 19 7).toNatClampNeg r46) 22 ((cz_i M46 21 ((cz_a M9 (69 + (M9.1 19 7).toNatClampNeg) (va_cpy (M9.1 a1) (M9.1 (69 + (M9.1 19 7).toNatClampNeg)) (0 : Int32).toNatClampNeg (0 : Int32).toNatClampNeg (5 : Int32).toNatClampNeg)).1 19 7).toNatClampNeg r46).1 19 7).toNatClampNeg r4).1 19 7).toNatClampNeg (((cz_i (cz_i M46 21 ((cz_a M9 (69 + (M9.1 19 7).toNatClampNeg) (va_cpy (M9.1 a1) (M9.1 (69 + (M9.1 19 7).toNatClampNeg)) (0 : Int32).toNatClampNeg (0 : Int32).toNatClampNeg (5 : Int32).toNatClampNeg)).1 19 7).toNatClampNeg r46) 22 ((cz_i M46 21 ((cz_a M9 (69 + (M9.1 19 7).toNatClampNeg) (va_cpy (M9.1 a1) (M9.1 (69 + (M9.1 19 7).toNatClampNeg)) (0 : Int32).toNatClampNeg (0 : Int32).toNatClampNeg (5 : Int32).toNatClampNeg)).1 19 7).toNatClampNeg r46).1 19 7).toNatClampNeg r4).1 23 r4.toNatClampNeg) + ((cz_i (cz_i M46 21 ((cz_a M9 (69 + (M9.1 19 7).toNatClampNeg) (va_cpy (M9.1 a1) (M9.1 (69 + (M9.1 19 7).toNatClampNeg)) (0 : Int32).toNatClampNeg (0 : Int32).toNatClampNeg (5 : Int32).toNatClampNeg)).1 19 7).toNatClampNeg r46) 22 ((cz_i M46 21 ((cz_a M9 (69 + (M9.1 19 7).toNatClampNeg) (va_cpy (M9.1 a1) (M9.1 (69 + (M9.1 19 7).toNatClampNeg)) (0 : Int32).toNatClampNeg (0 : Int32).toNatClampNeg (5 : Int32).toNatClampNeg)).1 19 7).toNatClampNeg r46).1 19 7).toNatClampNeg r4).1 a1 (3 : Int32).toNatClampNeg))) 25 ((cz_i (cz_i (cz_i M46 21 ((cz_a M9 (69 + (M9.1 19 7).toNatClampNeg) (va_cpy (M9.1 a1) (M9.1 (69 + (M9.1 19 7).toNatClampNeg)) (0 : Int32).toNatClampNeg (0 : Int32).toNatClampNeg (5 : Int32).toNatClampNeg)).1 19 7).toNatClampNeg r46) 22 ((cz_i M46 21 ((cz_a M9 (69 + (M9.1 19 7).toNatClampNeg) (va_cpy (M9.1 a1) (M9.1 (69 + (M9.1 19 7).toNatClampNeg)) (0 : Int32).toNatClampNeg (0 : Int32).toNatClampNeg (5 : Int32).toNatClampNeg)).1 19 7).toNatClampNeg r46).1 19 7).toNatClampNeg r4) 23 ((cz_i (cz_i M46 21 ((cz_a M9 (69 + (M9.1 19 7).toNatClampNeg) (va_cpy (M9.1 a1) (M9.1 (69 + (M9.1 19 7).toNatClampNeg)) (0 : Int32).toNatClampNeg (0 : Int32).toNatClampNeg (5 : Int32).toNatClampNeg)).1 19 7).toNatClampNeg r46) 22 ((cz_i M46 21 ((cz_a M9 (69 + (M9.1 19 7).toNatClampNeg) (va_cpy (M9.1 a1) (M9.1 (69 + (M9.1 19 7).toNatClampNeg)) (0 : Int32).toNatClampNeg (0 : Int32).toNatClampNeg (5 : Int32).toNatClampNeg)).1 19 7).toNatClampNeg r46).1 19 7).toNatClampNeg r4).1 19 7).toNatClampNeg (((cz_i (cz_i M46 21 ((cz_a M9 (69 + (M9.1 19 7).toNatClampNeg) (va_cpy (M9.1 a1) (M9.1 (69 + (M9.1 19 7).toNatClampNeg)) (0 : Int32).toNatClampNeg (0 : Int32).toNatClampNeg (5 : Int32).toNatClampNeg)).1 19 7).toNatClampNeg r46) 22 ((cz_i M46 21 ((cz_a M9 (69 + (M9.1 19 7).toNatClampNeg) (va_cpy (M9.1 a1) (M9.1 (69 + (M9.1 19 7).toNatClampNeg)) (0 : Int32).toNatClampNeg (0 : Int32).toNatClampNeg (5 : Int32).toNatClampNeg)).1 19 7).toNatClampNeg r46).1 19 7).toNatClampNeg r4).1 23 r4.toNatClampNeg) + ((cz_i (cz_i M46 21 ((cz_a M9 (69 + (M9.1 19 7).toNatClampNeg) (va_cpy (M9.1 a1) (M9.1 (69 + (M9.1 19 7).toNatClampNeg)) (0 : Int32).toNatClampNeg (0 : Int32).toNatClampNeg (5 : Int32).toNatClampNeg)).1 19 7).toNatClampNeg r46) 22 ((cz_i M46 21 ((cz_a M9 (69 + (M9.1 19 7).toNatClampNeg) (va_cpy (M9.1 a1) (M9.1 (69 + (M9.1 19 7).toNatClampNeg)) (0 : Int32).toNatClampNeg (0 : Int32).toNatClampNeg (5 : Int32).toNatClampNeg)).1 19 7).toNatClampNeg r46).1 19 7).toNatClampNeg r4).1 a1 (3 : Int32).toNatClampNeg))).1 19 7).toNatClampNeg (-1 : Int32)) 19 7 (((cz_i (cz_i (cz_i (cz_i M46 21 ((cz_a M9 (69 + (M9.1 19 7).toNatClampNeg) (va_cpy (M9.1 a1) (M9.1 (69 + (M9.1 19 7).toNatClampNeg)) (0 : Int32).toNatClampNeg (0 : Int32).toNatClampNeg (5 : Int32).toNatClampNeg)).1 19 7).toNatClampNeg r46) 22 ((cz_i M46 21 ((cz_a M9 (69 + (M9.1 19 7).toNatClampNeg) (va_cpy (M9.1 a1) (M9.1 (69 + (M9.1 19 7).toNatClampNeg)) (0 : Int32).toNatClampNeg (0 : Int32).toNatClampNeg (5 : Int32).toNatClampNeg)).1 19 7).toNatClampNeg r46).1 19 7).toNatClampNeg r4) 23 ((cz_i (cz_i M46 21 ((cz_a M9 (69 + (M9.1 19 7).toNatClampNeg) (va_cpy (M9.1 a1) (M9.1 (69 + (M9.1 19 7).toNatClampNeg)) (0 : Int32).toNatClampNeg (0 : Int32).toNatClampNeg (5 : Int32).toNatClampNeg)).1 19 7).toNatClampNeg r46) 22 ((cz_i M46 21 ((cz_a M9 (69 + (M9.1 19 7).toNatClampNeg) (va_cpy (M9.1 a1) (M9.1 (69 + (M9.1 19 7).toNatClampNeg)) (0 : Int32).toNatClampNeg (0 : Int32).toNatClampNeg (5 : Int32).toNatClampNeg)).1 19 7).toNatClampNeg r46).1 19 7).toNatClampNeg r4).1 19 7).toNatClampNeg (((cz_i (cz_i M46 21 ((cz_a M9 (69 + (M9.1 19 7).toNatClampNeg) (va_cpy (M9.1 a1) (M9.1 (69 + (M9.1 19 7).toNatClampNeg)) (0 : Int32).toNatClampNeg (0 : Int32).toNatClampNeg (5 : Int32).toNatClampNeg)).1 19 7).toNatClampNeg r46) 22 ((cz_i M46 21 ((cz_a M9 (69 + (M9.1 19 7).toNatClampNeg) (va_cpy (M9.1 a1) (M9.1 (69 + (M9.1 19 7).toNatClampNeg)) (0 : Int32).toNatClampNeg (0 : Int32).toNatClampNeg (5 : Int32).toNatClampNeg)).1 19 7).toNatClampNeg r46).1 19 7).toNatClampNeg r4).1 23 r4.toNatClampNeg) + ((cz_i (cz_i M46 21 ((cz_a M9 (69 + (M9.1 19 7).toNatClampNeg) (va_cpy (M9.1 a1) (M9.1 (69 + (M9.1 19 7).toNatClampNeg)) (0 : Int32).toNatClampNeg (0 : Int32).toNatClampNeg (5 : Int32).toNatClampNeg)).1 19 7).toNatClampNeg r46) 22 ((cz_i M46 21 ((cz_a M9 (69 + (M9.1 19 7).toNatClampNeg) (va_cpy (M9.1 a1) (M9.1 (69 + (M9.1 19 7).toNatClampNeg)) (0 : Int32).toNatClampNeg (0 : Int32).toNatClampNeg (5 : Int32).toNatClampNeg)).1 19 7).toNatClampNeg r46).1 19 7).toNatClampNeg r4).1 a1 (3 : Int32).toNatClampNeg))) 25 ((cz_i (cz_i (cz_i M46 21 ((cz_a M9 (69 + (M9.1 19 7).toNatClampNeg) (va_cpy (M9.1 a1) (M9.1 (69 + (M9.1 19 7).toNatClampNeg)) (0 : Int32).toNatClampNeg (0 : Int32).toNatClampNeg (5 : Int32).toNatClampNeg)).1 19 7).toNatClampNeg r46) 22 ((cz_i M46 21 ((cz_a M9 (69 + (M9.1 19 7).toNatClampNeg) (va_cpy (M9.1 a1) (M9.1 (69 + (M9.1 19 7).toNatClampNeg)) (0 : Int32).toNatClampNeg (0 : Int32).toNatClampNeg (5 : Int32).toNatClampNeg)).1 19 7).toNatClampNeg r46).1 19 7).toNatClampNeg r4) 23 ((cz_i (cz_i M46 21 ((cz_a M9 (69 + (M9.1 19 7).toNatClampNeg) (va_cpy (M9.1 a1) (M9.1 (69 + (M9.1 19 7).toNatClampNeg)) (0 : Int32).toNatClampNeg (0 : Int32).toNatClampNeg (5 : Int32).toNatClampNeg)).1 19 7).toNatClampNeg r46) 22 ((cz_i M46 21 ((cz_a M9 (69 + (M9.1 19 7).toNatClampNeg) (va_cpy (M9.1 a1) (M9.1 (69 + (M9.1 19 7).toNatClampNeg)) (0 : Int32).toNatClampNeg (0 : Int32).toNatClampNeg (5 : Int32).toNatClampNeg)).1 19 7).toNatClampNeg r46).1 19 7).toNatClampNeg r4).1 19 7).toNatClampNeg (((cz_i (cz_i M46 21 ((cz_a M9 (69 + (M9.1 19 7).toNatClampNeg) (va_cpy (M9.1 a1) (M9.1 (69 + (M9.1 19 7).toNatClampNeg)) (0 : Int32).toNatClampNeg (0 : Int32).toNatClampNeg (5 : Int32).toNatClampNeg)).1 19 7).toNatClampNeg r46) 22 ((cz_i M46 21 ((cz_a M9 (69 + (M9.1 19 7).toNatClampNeg) (va_cpy (M9.1 a1) (M9.1 (69 + (M9.1 19 7).toNatClampNeg)) (0 : Int32).toNatClampNeg (0 : Int32).toNatClampNeg (5 : Int32).toNatClampNeg)).1 19 7).toNatClampNeg r46).1 19 7).toNatClampNeg r4).1 23 r4.toNatClampNeg) + ((cz_i (cz_i M46 21 ((cz_a M9 (69 + (M9.1 19 7).toNatClampNeg) (va_cpy (M9.1 a1) (M9.1 (69 + (M9.1 19 7).toNatClampNeg)) (0 : Int32).toNatClampNeg (0 : Int32).toNatClampNeg (5 : Int32).toNatClampNeg)).1 19 7).toNatClampNeg r46) 22 ((cz_i M46 21 ((cz_a M9 (69 + (M9.1 19 7).toNatClampNeg) (va_cpy (M9.1 a1) (M9.1 (69 + (M9.1 19 7).toNatClampNeg)) (0 : Int32).toNatClampNeg (0 : Int32).toNatClampNeg (5 : Int32).toNatClampNeg)).1 19 7).toNatClampNeg r46).1 19 7).toNatClampNeg r4).1 a1 (3 : Int32).toNatClampNeg))).1 19 7).toNatClampNeg (-1 : Int32)).1 19 7) + (1 : Int32))))))))))))))))
  else (some M9)))))))
def b_CP_takeHeaders_107 (rec2 : cz_M → Int32 → Option (Int32 × cz_M)) (M : cz_M) (v1 : Int32) : Option (Int32 × cz_M) :=
  rec2 M (v1 + 1)
def b_CP_takeHeaders_69 (rec2 : cz_M → Int32 → Option (Int32 × cz_M)) (M : cz_M) (v1 : Int32) (q2 : Nat) (s0 : Int32) : Option (Int32 × cz_M) :=
  (if s0 = 0 then (some ((0 : Int32), M))
  else ((cz_bi (f_Blocks_isGood M q2) (fun r79 M79 => (if r79 = 0 then (some ((0 : Int32), M79))
  else ((cz_bi (f_Blocks_isFull M79) (fun r91 M91 => (if r91 = 0 then ((cz_bv (f_Blocks_append M91 q2) (fun M104 => b_CP_takeHeaders_107 rec2 M104 v1)))
  else (some ((1 : Int32), M91)))))))))))
def b_CP_takeHeaders_64 (rec2 : cz_M → Int32 → Option (Int32 × cz_M)) (M : cz_M) (v1 : Int32) (q2 : Nat) : Option (Int32 × cz_M) :=
  b_CP_takeHeaders_69 rec2 M v1 q2 (1 : Int32)
def l_CP_takeHeaders_2 (rec2 : cz_M → Int32 → Option (Int32 × cz_M)) (M : cz_M) (v1 : Int32) : Option (Int32 × cz_M) :=
  (if (M.1 16 7) ≤ v1 then (some ((1 : Int32), M))
  else ((if v1 < 0 ∨ 8 ≤ v1.toNatClampNeg then none else (cz_bi (f_CP_hashOf M (61 + v1.toNatClampNeg)) (fun r28 M28 => (cz_bi (f_Blocks_isKnown M28 r28) (fun r31 M31 => (if r31 = 0 then ((if v1 = 0 then (b_CP_takeHeaders_64 rec2 M31 v1 (61 + v1.toNatClampNeg))
  else ((if (0 : Int32) < 0 ∨ cp_ln (61 + v1.toNatClampNeg) ≤ (0 : Int32).toNatClampNeg then none else (if (v1 - (1 : Int32)) < 0 ∨ 8 ≤ (v1 - (1 : Int32)).toNatClampNeg then none else (cz_bi (f_CP_hashOf M31 (61 + (v1 - (1 : Int32)).toNatClampNeg)) (fun r58 M58 => (if (M31.1 (61 + v1.toNatClampNeg) (0 : Int32).toNatClampNeg) = r58 then (b_CP_takeHeaders_64 rec2 M58 v1 (61 + v1.toNatClampNeg))
  else (b_CP_takeHeaders_69 rec2 M58 v1 (61 + v1.toNatClampNeg) (0 : Int32))))))))))
  else (b_CP_takeHeaders_107 rec2 M31 v1)))))))))
def f_CP_takeHeaders (M : cz_M) : Option (Int32 × cz_M) :=
  cz_lp2 (l_CP_takeHeaders_2) 100 M (0 : Int32)
def f_Peer_merit (M : cz_M) (a0 : Nat) : Option cz_M :=
  some (cz_i M a0 1 (cz_min ((M.1 a0 1) + (1 : Int32)) (3 : Int32)))
def b_CP_readHeaders_103 (a1 : Nat) (M : cz_M) : Option (Int32 × cz_M) :=
  (cz_bi (f_CP_takeHeaders M) (fun r104 M104 => (if r104 = 0 then (some ((2 : Int32), M104))
  else ((cz_bv (f_Peer_merit (cz_i M104 a1 3 (0 : Int32)) a1) (fun M118 => some ((0 : Int32), M118)))))))
def f_CP_readHeaders (M : cz_M) (a1 : Nat) : Option (Int32 × cz_M) :=
  (cz_bi (f_Peer_wasAsked M a1 (1 : Int32) (M.1 16 3)) (fun r9 M9 => (if r9 = 0 then (some ((1 : Int32), M9))
  else ((cz_bv (f_Peer_dropRequest M9 a1) (fun M23 => (if (M23.1 16 7) = 0 then (some ((0 : Int32), cz_i M23 a1 2 ((M9.1 a1 6) - (1 : Int32))))
  else ((if (0 : Int32) < 0 ∨ 8 ≤ (0 : Int32).toNatClampNeg then none else (if (1 : Int32) < 0 ∨ cp_ln (61 + (0 : Int32).toNatClampNeg) ≤ (1 : Int32).toNatClampNeg then none else (if (M23.1 (61 + (0 : Int32).toNatClampNeg) (1 : Int32).toNatClampNeg) = (M9.1 a1 6) then ((cz_bi (f_CP_hashOf M23 (61 + (0 : Int32).toNatClampNeg)) (fun r69 M69 => (cz_bi (f_Blocks_isKnown M69 r69) (fun r72 M72 => (if r72 = 0 then ((if (0 : Int32) < 0 ∨ cp_ln (61 + (0 : Int32).toNatClampNeg) ≤ (0 : Int32).toNatClampNeg then none else (cz_bi (f_Blocks_isKnown M72 (M72.1 (61 + (0 : Int32).toNatClampNeg) (0 : Int32).toNatClampNeg)) (fun r85 M85 => (if r85 = 0 then (some ((0 : Int32), cz_i M85 a1 3 ((M85.1 a1 3) + (1 : Int32))))
  else (b_CP_readHeaders_103 a1 M85))))))
  else (b_CP_readHeaders_103 a1 M72)))))))
  else (some ((2 : Int32), M23)))))))))))))
def f_Blocks_hasBody (M : cz_M) (a1 : Int32) : Option (Int32 × cz_M) :=
  (if a1 < 0 ∨ cp_ln 25 ≤ a1.toNatClampNeg then none else (if (M.1 25 a1.toNatClampNeg) = (-1 : Int32) then (some ((0 : Int32), M))
  else (some ((1 : Int32), M))))
def b_CP_sendBody_104 (a1 : Nat) (M : cz_M) (v3 : Int32) : Option cz_M :=
  (cz_bv (f_Bytes_endList M 12 v3) (fun M109 => (cz_bv (f_CP_sendDraft M109 a1) (fun M114 => some M114))))
def l_CP_sendBody_65 (a1 : Nat) (rec65 : cz_M → Int32 → Int32 → Int32 → Option cz_M) (M : cz_M) (v2 : Int32) (v3 : Int32) (v4 : Int32) : Option cz_M :=
  (if v2 < 0 ∨ cp_ln 25 ≤ v2.toNatClampNeg then none else (if (M.1 25 v2.toNatClampNeg) ≤ v4 then (b_CP_sendBody_104 a1 M v3)
  else ((if v2 < 0 ∨ 20 ≤ v2.toNatClampNeg then none else (if v4 < 0 ∨ cp_ln (89 + v2.toNatClampNeg) ≤ v4.toNatClampNeg then none else (cz_bv (f_Bytes_addNumber M 12 (M.1 (89 + v2.toNatClampNeg) v4.toNatClampNeg)) (fun M95 => rec65 M95 v2 v3 (v4 + 1))))))))
def f_CP_sendBody (M : cz_M) (a1 : Nat) : Option cz_M :=
  (cz_bi (f_Blocks_find M (M.1 16 6)) (fun r11 M11 => (if r11 = (-1 : Int32) then (some M11)
  else ((cz_bi (f_Blocks_hasBody M11 r11) (fun r25 M25 => (if r25 = 0 then (some M25)
  else ((cz_bv (f_Bytes_begin M25 12 (4 : Int32)) (fun M37 => (cz_bv (f_Bytes_addNumber M37 12 (M37.1 16 3)) (fun M51 => (cz_bi (f_Bytes_beginList M51 12) (fun r58 M58 => cz_lp4 (l_CP_sendBody_65 a1) 100 M58 r11 r58 (0 : Int32)))))))))))))))
def f_CP_rootOf (M : cz_M) (a0 : Nat) (a1 : Int32) : Option (Int32 × cz_M) :=
  (cz_bi (f_CP_mix M a1 a0 a1) (fun r3 M3 => some (r3, M3)))
def b_Blocks_setBody_67 (a1 : Int32) (a2 : Nat) (a3 : Int32) (rec23 : cz_M → Int32 → Option cz_M) (M : cz_M) (v4 : Int32) (s0 : Int32) (s1 : Int32) : Option cz_M :=
  (if s1 < 0 ∨ 20 ≤ s1.toNatClampNeg then none else rec23 (cz_i M 26 s1.toNatClampNeg (vp_nar .boolean s0)) (v4 + 1))
def b_Blocks_setBody_66 (a1 : Int32) (a2 : Nat) (a3 : Int32) (rec23 : cz_M → Int32 → Option cz_M) (M : cz_M) (v4 : Int32) (s0 : Int32) : Option cz_M :=
  b_Blocks_setBody_67 a1 a2 a3 rec23 M v4 (0 : Int32) s0
def l_Blocks_setBody_23 (a1 : Int32) (a2 : Nat) (a3 : Int32) (rec23 : cz_M → Int32 → Option cz_M) (M : cz_M) (v4 : Int32) : Option cz_M :=
  (if (M.1 19 7) ≤ v4 then (some M)
  else ((cz_bi (f_Blocks_hasBody M v4) (fun r41 M41 => (if r41 = 0 then (b_Blocks_setBody_66 a1 a2 a3 rec23 M41 v4 v4)
  else ((if v4 < 0 ∨ cp_ln 22 ≤ v4.toNatClampNeg then none else (if (M41.1 22 v4.toNatClampNeg) < 0 ∨ 20 ≤ (M41.1 22 v4.toNatClampNeg).toNatClampNeg then none else (if (M41.1 26 (M41.1 22 v4.toNatClampNeg).toNatClampNeg) = 0 then (b_Blocks_setBody_66 a1 a2 a3 rec23 M41 v4 v4)
  else (b_Blocks_setBody_67 a1 a2 a3 rec23 M41 v4 (1 : Int32) v4))))))))))
def f_Blocks_setBody (M : cz_M) (a1 : Int32) (a2 : Nat) (a3 : Int32) : Option cz_M :=
  (if a1 < 0 ∨ 20 ≤ a1.toNatClampNeg then none else (if (0 : Int32) < 0 ∨ (0 : Int32) < 0 ∨ a3 < 0 ∨ cp_ln a2 < (0 : Int32).toNatClampNeg + a3.toNatClampNeg ∨ cp_ln (89 + a1.toNatClampNeg) < (0 : Int32).toNatClampNeg + a3.toNatClampNeg then none else (if a1 < 0 ∨ cp_ln 25 ≤ a1.toNatClampNeg then none else cz_lp2 (l_Blocks_setBody_23 a1 a2 a3) 100 (cz_i (cz_a M (89 + a1.toNatClampNeg) (va_cpy (M.1 a2) (M.1 (89 + a1.toNatClampNeg)) (0 : Int32).toNatClampNeg (0 : Int32).toNatClampNeg a3.toNatClampNeg)) 25 a1.toNatClampNeg a3) a1)))
def f_CP_readBody (M : cz_M) (a1 : Nat) : Option (Int32 × cz_M) :=
  (cz_bi (f_Peer_wasAsked M a1 (3 : Int32) (M.1 16 3)) (fun r9 M9 => (if r9 = 0 then (some ((1 : Int32), M9))
  else ((cz_bv (f_Peer_dropRequest M9 a1) (fun M23 => (cz_bi (f_CP_rootOf M23 18 (M23.1 16 7)) (fun r40 M40 => (if (M9.1 a1 6) < 0 ∨ 20 ≤ (M9.1 a1 6).toNatClampNeg then none else (if (4 : Int32) < 0 ∨ cp_ln (69 + (M9.1 a1 6).toNatClampNeg) ≤ (4 : Int32).toNatClampNeg then none else (if r40 = (M40.1 (69 + (M9.1 a1 6).toNatClampNeg) (4 : Int32).toNatClampNeg) then ((cz_bv (f_Blocks_setBody M40 (M9.1 a1 6) 18 (M40.1 16 7)) (fun M78 => (cz_bv (f_Peer_merit M78 a1) (fun M82 => some ((0 : Int32), M82))))))
  else (some ((2 : Int32), M40)))))))))))))
def f_CP_readReady (M : cz_M) (a1 : Nat) : Option (Int32 × cz_M) :=
  (if (M.1 16 0) = (1 : Int32) then ((cz_bv (f_CP_sendHeaders M a1) (fun M42 => some ((0 : Int32), M42))))
  else (if (M.1 16 0) = (2 : Int32) then ((cz_bi (f_CP_readHeaders M a1) (fun r49 M49 => some (r49, M49))))
  else (if (M.1 16 0) = (3 : Int32) then ((cz_bv (f_CP_sendBody M a1) (fun M55 => some ((0 : Int32), M55))))
  else (if (M.1 16 0) = (4 : Int32) then ((cz_bi (f_CP_readBody M a1) (fun r62 M62 => some (r62, M62))))
  else (if (M.1 16 0) = (5 : Int32) then ((cz_bv (f_Peer_leave M a1 (0 : Int32)) (fun M68 => some ((0 : Int32), M68))))
  else (some ((2 : Int32), M)))))))
def b_CP_receive_71 (a1 : Int32) (M : cz_M) (q2 : Nat) (s0 : Int32) : Option (Int32 × cz_M) :=
  (if s0 = 0 then (some (M.1 16 0, M))
  else ((cz_bv (f_Peer_fault M q2 s0) (fun M86 => some ((-3 : Int32), M86)))))
def f_CP_receive (M : cz_M) (a1 : Int32) : Option (Int32 × cz_M) :=
  (cz_bi (f_CP_isPeer M a1) (fun r1 M1 => (if r1 = 0 then (some ((-1 : Int32), M1))
  else ((if a1 < 0 ∨ 4 ≤ a1.toNatClampNeg then none else (cz_bi (f_Peer_isTalking M1 (2 + 2 * a1.toNatClampNeg)) (fun r13 M13 => (if r13 = 0 then (some ((-1 : Int32), M13))
  else ((if a1 < 0 ∨ 4 ≤ a1.toNatClampNeg then none else (cz_bi (f_Message_parse M13 10) (fun r36 M36 => (if r36 = 0 then ((cz_bv (f_Peer_fault M36 (2 + 2 * a1.toNatClampNeg) (4 : Int32)) (fun M44 => some ((-2 : Int32), M44))))
  else ((if (M36.1 (2 + 2 * a1.toNatClampNeg) 0) = (1 : Int32) then ((cz_bi (f_CP_readGreeting M36 (2 + 2 * a1.toNatClampNeg)) (fun r60 M60 => b_CP_receive_71 a1 M60 (2 + 2 * a1.toNatClampNeg) r60)))
  else ((cz_bi (f_CP_readReady M36 (2 + 2 * a1.toNatClampNeg)) (fun r68 M68 => b_CP_receive_71 a1 M68 (2 + 2 * a1.toNatClampNeg) r68))))))))))))))))))
def b_Peer_moveFirstTo_39 (a0 : Nat) (a1 : Nat) (M : cz_M) (q2 : Nat) : Option cz_M :=
  (if (3 : Int32) < 0 ∨ 4 ≤ (3 : Int32).toNatClampNeg then none else some (cz_i (cz_r M (a0 + 1) (3 : Int32).toNatClampNeg q2) a0 9 (((cz_r M (a0 + 1) (3 : Int32).toNatClampNeg q2).1 a0 9) - (1 : Int32))))
def l_Peer_moveFirstTo_14 (a0 : Nat) (a1 : Nat) (rec14 : cz_M → Nat → Int32 → Option cz_M) (M : cz_M) (q2 : Nat) (v3 : Int32) : Option cz_M :=
  (if (4 : Int32) ≤ v3 then (b_Peer_moveFirstTo_39 a0 a1 M q2)
  else ((if v3 < 0 ∨ 4 ≤ v3.toNatClampNeg then none else (if cp_B (M.2 (a0 + 1) v3.toNatClampNeg) then (if (v3 - (1 : Int32)) < 0 ∨ 4 ≤ (v3 - (1 : Int32)).toNatClampNeg then none else rec14 (cz_r M (a0 + 1) (v3 - (1 : Int32)).toNatClampNeg (M.2 (a0 + 1) v3.toNatClampNeg)) q2 (v3 + 1)) else none))))
def f_Peer_moveFirstTo (M : cz_M) (a0 : Nat) (a1 : Nat) : Option cz_M :=
  (if (0 : Int32) < 0 ∨ 4 ≤ (0 : Int32).toNatClampNeg then none else (if cp_B (M.2 (a0 + 1) (0 : Int32).toNatClampNeg) then (cz_bv (f_Bytes_copyFrom M a1 (M.2 (a0 + 1) (0 : Int32).toNatClampNeg)) (fun M9 => cz_lp3 (l_Peer_moveFirstTo_14 a0 a1) 100 M9 (M.2 (a0 + 1) (0 : Int32).toNatClampNeg) (1 : Int32))) else none))
def f_CP_send (M : cz_M) (a1 : Int32) : Option (Int32 × cz_M) :=
  (cz_bi (f_CP_isPeer M a1) (fun r1 M1 => (if r1 = 0 then (some ((-1 : Int32), M1))
  else ((if a1 < 0 ∨ 4 ≤ a1.toNatClampNeg then none else (if (M1.1 (2 + 2 * a1.toNatClampNeg) 9) = 0 then (some ((-1 : Int32), M1))
  else ((if a1 < 0 ∨ 4 ≤ a1.toNatClampNeg then none else (cz_bv (f_Peer_moveFirstTo M1 (2 + 2 * a1.toNatClampNeg) 10) (fun M31 => some (M31.1 10 1, M31)))))))))))
def f_Peer_isIdle (M : cz_M) (a0 : Nat) : Option (Int32 × cz_M) :=
  (if (M.1 a0 0) = (2 : Int32) then ((if (M.1 a0 5) = 0 then (some ((1 : Int32), M))
  else (some ((0 : Int32), M))))
  else (some ((0 : Int32), M)))
def b_Blocks_heaviest_29 (rec4 : cz_M → Int32 → Int32 → Option (Int32 × cz_M)) (M : cz_M) (v1 : Int32) (v2 : Int32) : Option (Int32 × cz_M) :=
  rec4 M v1 (v2 + 1)
def l_Blocks_heaviest_4 (rec4 : cz_M → Int32 → Int32 → Option (Int32 × cz_M)) (M : cz_M) (v1 : Int32) (v2 : Int32) : Option (Int32 × cz_M) :=
  (if (M.1 19 7) ≤ v2 then (some (v1, M))
  else ((if v2 < 0 ∨ cp_ln 23 ≤ v2.toNatClampNeg then none else (if v1 < 0 ∨ cp_ln 23 ≤ v1.toNatClampNeg then none else (if (M.1 23 v2.toNatClampNeg) ≤ (M.1 23 v1.toNatClampNeg) then (b_Blocks_heaviest_29 rec4 M v1 v2)
  else (b_Blocks_heaviest_29 rec4 M v2 v2))))))
def f_Blocks_heaviest (M : cz_M) : Option (Int32 × cz_M) :=
  cz_lp3 (l_Blocks_heaviest_4) 100 M (0 : Int32) (1 : Int32)
def f_Peer_isAskedForBody (M : cz_M) (a0 : Nat) (a1 : Int32) : Option (Int32 × cz_M) :=
  (if (M.1 a0 5) = 0 then (some ((0 : Int32), M))
  else ((if (M.1 a0 4) = (3 : Int32) then ((if (M.1 a0 6) = a1 then (some ((1 : Int32), M))
  else (some ((0 : Int32), M))))
  else (some ((0 : Int32), M)))))
def l_CP_isBodyAsked_2 (a1 : Int32) (rec2 : cz_M → Int32 → Option (Int32 × cz_M)) (M : cz_M) (v2 : Int32) : Option (Int32 × cz_M) :=
  (if (4 : Int32) ≤ v2 then (some ((0 : Int32), M))
  else ((if v2 < 0 ∨ 4 ≤ v2.toNatClampNeg then none else (cz_bi (f_Peer_isAskedForBody M (2 + 2 * v2.toNatClampNeg) a1) (fun r14 M14 => (if r14 = 0 then (rec2 M14 (v2 + 1))
  else (some ((1 : Int32), M14))))))))
def f_CP_isBodyAsked (M : cz_M) (a1 : Int32) : Option (Int32 × cz_M) :=
  cz_lp2 (l_CP_isBodyAsked_2 a1) 100 M (0 : Int32)
def b_CP_wantedBlock_44 (rec19 : cz_M → Int32 → Int32 → Int32 → Option (Int32 × cz_M)) (M : cz_M) (v1 : Int32) (v2 : Int32) (v3 : Int32) : Option (Int32 × cz_M) :=
  (if v2 < 0 ∨ cp_ln 22 ≤ v2.toNatClampNeg then none else rec19 M v1 (M.1 22 v2.toNatClampNeg) (v3 - 1))
def l_CP_wantedBlock_19 (rec19 : cz_M → Int32 → Int32 → Int32 → Option (Int32 × cz_M)) (M : cz_M) (v1 : Int32) (v2 : Int32) (v3 : Int32) : Option (Int32 × cz_M) :=
  (if v3 ≤ 0 then (some (v1, M))
  else ((cz_bi (f_Blocks_hasBody M v2) (fun r28 M28 => (if r28 = 0 then ((cz_bi (f_CP_isBodyAsked M28 v2) (fun r36 M36 => (if r36 = 0 then (b_CP_wantedBlock_44 rec19 M36 v2 v2 v3)
  else (b_CP_wantedBlock_44 rec19 M36 v1 v2 v3)))))
  else (b_CP_wantedBlock_44 rec19 M28 v1 v2 v3))))))
def f_CP_wantedBlock (M : cz_M) : Option (Int32 × cz_M) :=
  (cz_bi (f_Blocks_heaviest M) (fun r6 M6 => (cz_bi (f_Blocks_numberOf M6 r6) (fun r15 M15 => cz_lp4 (l_CP_wantedBlock_19) 100 M15 (-1 : Int32) r6 r15))))
def f_Peer_setRequest (M : cz_M) (a0 : Nat) (a1 : Int32) (a2 : Int32) (a3 : Int32) (a4 : Int32) : Option cz_M :=
  some (cz_i (cz_i (cz_i (cz_i M a0 4 a1) a0 5 a2) a0 6 a3) a0 7 a4)
def f_CP_askForBody (M : cz_M) (a1 : Nat) (a2 : Int32) : Option cz_M :=
  (cz_bv (f_Peer_setRequest (cz_i M 0 10 ((M.1 0 10) + (1 : Int32))) a1 (3 : Int32) ((cz_i M 0 10 ((M.1 0 10) + (1 : Int32))).1 0 10) a2 (((cz_i M 0 10 ((M.1 0 10) + (1 : Int32))).1 0 9) + ((cz_i M 0 10 ((M.1 0 10) + (1 : Int32))).1 0 1))) (fun M26 => (cz_bv (f_Bytes_begin M26 12 (3 : Int32)) (fun M34 => (cz_bv (f_Bytes_addNumber M34 12 (M34.1 0 10)) (fun M45 => (if a2 < 0 ∨ cp_ln 21 ≤ a2.toNatClampNeg then none else (cz_bv (f_Bytes_addNumber M45 12 (M45.1 21 a2.toNatClampNeg)) (fun M61 => (cz_bv (f_CP_sendDraft M61 a1) (fun M66 => some M66)))))))))))
def f_CP_askForHeaders (M : cz_M) (a1 : Nat) (a2 : Int32) : Option cz_M :=
  (cz_bv (f_Peer_setRequest (cz_i M 0 10 ((M.1 0 10) + (1 : Int32))) a1 (1 : Int32) ((cz_i M 0 10 ((M.1 0 10) + (1 : Int32))).1 0 10) a2 (((cz_i M 0 10 ((M.1 0 10) + (1 : Int32))).1 0 9) + ((cz_i M 0 10 ((M.1 0 10) + (1 : Int32))).1 0 1))) (fun M26 => (cz_bv (f_Bytes_begin M26 12 (1 : Int32)) (fun M34 => (cz_bv (f_Bytes_addNumber M34 12 (M34.1 0 10)) (fun M45 => (cz_bv (f_Bytes_addNumber M45 12 a2) (fun M53 => (cz_bv (f_Bytes_addNumber M53 12 (2 : Int32)) (fun M61 => (cz_bv (f_CP_sendDraft M61 a1) (fun M66 => some M66))))))))))))
def f_CP_ask (M : cz_M) (a1 : Nat) : Option (Int32 × cz_M) :=
  (cz_bi (f_CP_wantedBlock M) (fun r1 M1 => (if r1 = (-1 : Int32) then ((cz_bi (f_Blocks_heaviest M1) (fun r26 M26 => (cz_bi (f_Blocks_numberOf M26 r26) (fun r29 M29 => (cz_bi (f_Blocks_isFull M29) (fun r48 M48 => (if r48 = 0 then ((if (cz_max ((r29 + (1 : Int32)) - (M29.1 a1 3)) (1 : Int32)) ≤ (M48.1 a1 2) then ((cz_bv (f_CP_askForHeaders M48 a1 (cz_max ((r29 + (1 : Int32)) - (M29.1 a1 3)) (1 : Int32))) (fun M67 => some ((1 : Int32), M67))))
  else (some ((0 : Int32), M48))))
  else (some ((0 : Int32), M48))))))))))
  else ((cz_bv (f_CP_askForBody M1 a1 r1) (fun M13 => some ((1 : Int32), M13)))))))
def b_CP_work_37 (rec4 : cz_M → Int32 → Int32 → Option (Int32 × cz_M)) (M : cz_M) (v1 : Int32) (v2 : Int32) : Option (Int32 × cz_M) :=
  rec4 M v1 (v2 + 1)
def l_CP_work_4 (rec4 : cz_M → Int32 → Int32 → Option (Int32 × cz_M)) (M : cz_M) (v1 : Int32) (v2 : Int32) : Option (Int32 × cz_M) :=
  (if (4 : Int32) ≤ v2 then (some (v1, M))
  else ((if v2 < 0 ∨ 4 ≤ v2.toNatClampNeg then none else (cz_bi (f_Peer_isIdle M (2 + 2 * v2.toNatClampNeg)) (fun r15 M15 => (if r15 = 0 then (b_CP_work_37 rec4 M15 v1 v2)
  else ((if v2 < 0 ∨ 4 ≤ v2.toNatClampNeg then none else (cz_bi (f_CP_ask M15 (2 + 2 * v2.toNatClampNeg)) (fun r28 M28 => (if r28 = 0 then (b_CP_work_37 rec4 M28 v1 v2)
  else (b_CP_work_37 rec4 M28 (v1 + 1) v2))))))))))))
def f_CP_work (M : cz_M) : Option (Int32 × cz_M) :=
  cz_lp3 (l_CP_work_4) 100 M (0 : Int32) (0 : Int32)
def f_Peer_isLate (M : cz_M) (a0 : Nat) (a1 : Int32) : Option (Int32 × cz_M) :=
  (if (M.1 a0 5) = 0 then (some ((0 : Int32), M))
  else ((if a1 ≤ (M.1 a0 7) then (some ((0 : Int32), M))
  else (some ((1 : Int32), M)))))
def b_CP_loseLateRequests_47 (rec4 : cz_M → Int32 → Int32 → Option (Int32 × cz_M)) (M : cz_M) (v1 : Int32) (v2 : Int32) : Option (Int32 × cz_M) :=
  rec4 M v1 (v2 + 1)
def l_CP_loseLateRequests_4 (rec4 : cz_M → Int32 → Int32 → Option (Int32 × cz_M)) (M : cz_M) (v1 : Int32) (v2 : Int32) : Option (Int32 × cz_M) :=
  (if (4 : Int32) ≤ v2 then (some (v1, M))
  else ((if v2 < 0 ∨ 4 ≤ v2.toNatClampNeg then none else (cz_bi (f_Peer_isLate M (2 + 2 * v2.toNatClampNeg) (M.1 0 9)) (fun r19 M19 => (if r19 = 0 then (b_CP_loseLateRequests_47 rec4 M19 v1 v2)
  else ((if v2 < 0 ∨ 4 ≤ v2.toNatClampNeg then none else (cz_bv (f_Peer_dropRequest M19 (2 + 2 * v2.toNatClampNeg)) (fun M31 => (if v2 < 0 ∨ 4 ≤ v2.toNatClampNeg then none else (cz_bv (f_Peer_fault M31 (2 + 2 * v2.toNatClampNeg) (1 : Int32)) (fun M41 => b_CP_loseLateRequests_47 rec4 M41 (v1 + 1) v2)))))))))))))
def f_CP_loseLateRequests (M : cz_M) : Option (Int32 × cz_M) :=
  cz_lp3 (l_CP_loseLateRequests_4) 100 M (0 : Int32) (0 : Int32)
def l_CP_tick_16 (a1 : Int32) (rec16 : cz_M → Int32 → Int32 → Option (Int32 × cz_M)) (M : cz_M) (v2 : Int32) (v3 : Int32) : Option (Int32 × cz_M) :=
  (if a1 ≤ v3 then (some (v2, M))
  else ((cz_bi (f_CP_loseLateRequests (cz_i M 0 9 ((M.1 0 9) + (1 : Int32)))) (fun r33 M33 => rec16 M33 (v2 + r33) (v3 + 1)))))
def f_CP_tick (M : cz_M) (a1 : Int32) : Option (Int32 × cz_M) :=
  (if a1 < 0 then (some ((-1 : Int32), M))
  else ((if a1 ≤ (50 : Int32) then (cz_lp3 (l_CP_tick_16 a1) 100 M (0 : Int32) (0 : Int32))
  else (some ((-1 : Int32), M)))))
def b_CP_seal_18 (a1 : Int32) (a2 : Int32) (a3 : Int32) (M : cz_M) (v4 : Int32) (s0 : Int32) : Option (Int32 × cz_M) :=
  (if (0 : Int32) < 0 ∨ cp_ln 28 ≤ (0 : Int32).toNatClampNeg then none else (if v4 < 0 ∨ cp_ln 21 ≤ v4.toNatClampNeg then none else (if (0 : Int32) < 0 ∨ cp_ln 27 ≤ (0 : Int32).toNatClampNeg then none else (cz_bi (f_Blocks_numberOf (cz_i (cz_i M 28 (0 : Int32).toNatClampNeg a3) 27 (0 : Int32).toNatClampNeg ((cz_i M 28 (0 : Int32).toNatClampNeg a3).1 21 v4.toNatClampNeg)) v4) (fun r54 M54 => (if (1 : Int32) < 0 ∨ cp_ln 27 ≤ (1 : Int32).toNatClampNeg then none else (if (2 : Int32) < 0 ∨ cp_ln 27 ≤ (2 : Int32).toNatClampNeg then none else (if (3 : Int32) < 0 ∨ cp_ln 27 ≤ (3 : Int32).toNatClampNeg then none else (cz_bi (f_CP_rootOf (cz_i (cz_i (cz_i M54 27 (1 : Int32).toNatClampNeg (r54 + (1 : Int32))) 27 (2 : Int32).toNatClampNeg a1) 27 (3 : Int32).toNatClampNeg a2) 28 s0) (fun r85 M85 => (if (4 : Int32) < 0 ∨ cp_ln 27 ≤ (4 : Int32).toNatClampNeg then none else (cz_bi (f_Blocks_isGood (cz_i M85 27 (4 : Int32).toNatClampNeg r85) 27) (fun r97 M97 => (if r97 = 0 then (some ((-1 : Int32), M97))
  else ((cz_bi (f_CP_hashOf M97 27) (fun r111 M111 => (cz_bi (f_Blocks_isKnown M111 r111) (fun r114 M114 => (if r114 = 0 then ((cz_bi (f_Blocks_isFull M114) (fun r124 M124 => (if r124 = 0 then ((cz_bv (f_Blocks_append M124 27) (fun M149 => (cz_bv (f_Blocks_setBody M149 (M124.1 19 7) 28 s0) (fun M164 => some (M124.1 19 7, M164))))))
  else (some ((-1 : Int32), M124))))))
  else (some ((-1 : Int32), M114))))))))))))))))))))))
def f_CP_seal (M : cz_M) (a1 : Int32) (a2 : Int32) (a3 : Int32) : Option (Int32 × cz_M) :=
  (cz_bi (f_Blocks_head M) (fun r4 M4 => (if 0 ≤ a3 then (b_CP_seal_18 a1 a2 a3 M4 r4 (1 : Int32))
  else (b_CP_seal_18 a1 a2 a3 M4 r4 (0 : Int32)))))
def f_Peer_look (M : cz_M) (a0 : Nat) (a1 : Int32) : Option (Int32 × cz_M) :=
  (if a1 = (0 : Int32) then (some (M.1 a0 0, M))
  else (if a1 = (1 : Int32) then (some (M.1 a0 1, M))
  else (if a1 = (2 : Int32) then (some (M.1 a0 2, M))
  else (if a1 = (3 : Int32) then (some (M.1 a0 3, M))
  else (if a1 = (4 : Int32) then (some (M.1 a0 5, M))
  else (if a1 = (5 : Int32) then (some (M.1 a0 9, M))
  else (some ((0 : Int32), M))))))))
def f_CP_peer (M : cz_M) (a1 : Int32) (a2 : Int32) : Option (Int32 × cz_M) :=
  (cz_bi (f_CP_isPeer M a1) (fun r1 M1 => (if r1 = 0 then (some ((0 : Int32), M1))
  else ((if a1 < 0 ∨ 4 ≤ a1.toNatClampNeg then none else (cz_bi (f_Peer_look M1 (2 + 2 * a1.toNatClampNeg) a2) (fun r14 M14 => some (r14, M14))))))))
def f_Blocks_isBlock (M : cz_M) (a1 : Int32) : Option (Int32 × cz_M) :=
  (if a1 < 0 then (some ((0 : Int32), M))
  else ((if (M.1 19 7) ≤ a1 then (some ((0 : Int32), M))
  else (some ((1 : Int32), M)))))
def b_Blocks_look_60 (a1 : Int32) (a2 : Int32) (M : cz_M) : Option (Int32 × cz_M) :=
  (if a1 < 0 ∨ 20 ≤ a1.toNatClampNeg then none else (if a2 < 0 ∨ cp_ln (69 + a1.toNatClampNeg) ≤ a2.toNatClampNeg then none else some (M.1 (69 + a1.toNatClampNeg) a2.toNatClampNeg, M)))
def f_Blocks_look (M : cz_M) (a1 : Int32) (a2 : Int32) : Option (Int32 × cz_M) :=
  (cz_bi (f_Blocks_isBlock M a1) (fun r2 M2 => (if r2 = 0 then (some ((-1 : Int32), M2))
  else ((if a2 = (0 : Int32) then (b_Blocks_look_60 a1 a2 M2)
  else (if a2 = (1 : Int32) then (b_Blocks_look_60 a1 a2 M2)
  else (if a2 = (2 : Int32) then (b_Blocks_look_60 a1 a2 M2)
  else (if a2 = (3 : Int32) then (b_Blocks_look_60 a1 a2 M2)
  else (if a2 = (4 : Int32) then (b_Blocks_look_60 a1 a2 M2)
  else (if a2 = (5 : Int32) then ((if a1 < 0 ∨ cp_ln 21 ≤ a1.toNatClampNeg then none else some (M2.1 21 a1.toNatClampNeg, M2)))
  else (if a2 = (6 : Int32) then ((if a1 < 0 ∨ cp_ln 23 ≤ a1.toNatClampNeg then none else some (M2.1 23 a1.toNatClampNeg, M2)))
  else (if a2 = (7 : Int32) then ((if a1 < 0 ∨ cp_ln 25 ≤ a1.toNatClampNeg then none else some (M2.1 25 a1.toNatClampNeg, M2)))
  else (if a2 = (8 : Int32) then ((if a1 < 0 ∨ 20 ≤ a1.toNatClampNeg then none else (if (M2.1 26 a1.toNatClampNeg) = 0 then (some ((0 : Int32), M2))
  else (some ((1 : Int32), M2)))))
  else (some ((-1 : Int32), M2)))))))))))))))
def f_CP_block (M : cz_M) (a1 : Int32) (a2 : Int32) : Option (Int32 × cz_M) :=
  (cz_bi (f_Blocks_look M a1 a2) (fun r6 M6 => some (r6, M6)))
def f_Blocks_hasInBody (M : cz_M) (a1 : Int32) (a2 : Int32) : Option (Int32 × cz_M) :=
  (cz_bi (f_Blocks_isBlock M a1) (fun r2 M2 => (if r2 = 0 then (some ((0 : Int32), M2))
  else ((if a2 < 0 then (some ((0 : Int32), M2))
  else ((if a1 < 0 ∨ cp_ln 25 ≤ a1.toNatClampNeg then none else (if (M2.1 25 a1.toNatClampNeg) ≤ a2 then (some ((0 : Int32), M2))
  else (some ((1 : Int32), M2))))))))))
def f_CP_tx (M : cz_M) (a1 : Int32) (a2 : Int32) : Option (Int32 × cz_M) :=
  (cz_bi (f_Blocks_hasInBody M a1 a2) (fun r6 M6 => (if r6 = 0 then (some ((-1 : Int32), M6))
  else ((if a1 < 0 ∨ 20 ≤ a1.toNatClampNeg then none else (if a2 < 0 ∨ cp_ln (89 + a1.toNatClampNeg) ≤ a2.toNatClampNeg then none else some (M6.1 (89 + a1.toNatClampNeg) a2.toNatClampNeg, M6)))))))
def f_CP_state (M : cz_M) (a1 : Int32) : Option (Int32 × cz_M) :=
  (if a1 = (0 : Int32) then (some (M.1 19 7, M))
  else (if a1 = (1 : Int32) then ((cz_bi (f_Blocks_heaviest M) (fun r48 M48 => some (r48, M48))))
  else (if a1 = (2 : Int32) then ((cz_bi (f_Blocks_head M) (fun r56 M56 => some (r56, M56))))
  else (if a1 = (3 : Int32) then (some (M.1 0 9, M))
  else (if a1 = (4 : Int32) then (some (M.1 0 10, M))
  else (some ((-1 : Int32), M)))))))
