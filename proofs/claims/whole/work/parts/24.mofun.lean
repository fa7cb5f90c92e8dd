def f_MO_mix (M : cz_M) (a0 : Int32) (a1 : Int32) : Option (Int32 × cz_M) :=
  some ((((a0 ^^^ a1) * (16777619 : Int32)) ^^^ (cz_iushr ((a0 ^^^ a1) * (16777619 : Int32)) (15 : Int32))) &&& (2147483647 : Int32), M)
def b_MO_hash_38 (a1 : Int32) (a2 : Int32) (rec6 : cz_M → Int32 → Int32 → Option (Int32 × cz_M)) (M : cz_M) (v4 : Int32) (s0 : Int32) (s1 : Int32) : Option (Int32 × cz_M) :=
  (cz_bi (f_MO_mix M s1 s0) (fun r38 M38 => rec6 M38 r38 (v4 + 1)))
def l_MO_hash_6 (a1 : Int32) (a2 : Int32) (rec6 : cz_M → Int32 → Int32 → Option (Int32 × cz_M)) (M : cz_M) (v3 : Int32) (v4 : Int32) : Option (Int32 × cz_M) :=
  (if (5 : Int32) ≤ v4 then (some (v3, M))
  else ((if a1 = 0 then ((if (a2 + v4) < 0 ∨ mo_ln 17 ≤ (a2 + v4).toNatClampNeg then none else b_MO_hash_38 a1 a2 rec6 M v4 (M.1 17 (a2 + v4).toNatClampNeg) v3))
  else ((if (a2 + v4) < 0 ∨ mo_ln 1 ≤ (a2 + v4).toNatClampNeg then none else b_MO_hash_38 a1 a2 rec6 M v4 (M.1 1 (a2 + v4).toNatClampNeg) v3)))))
def f_MO_hash (M : cz_M) (a1 : Int32) (a2 : Int32) : Option (Int32 × cz_M) :=
  cz_lp3 (l_MO_hash_6 a1 a2) 100 M (7 : Int32) (0 : Int32)
def l_MO_blockOf_2 (a1 : Int32) (rec2 : cz_M → Int32 → Option (Int32 × cz_M)) (M : cz_M) (v2 : Int32) : Option (Int32 × cz_M) :=
  (if (M.1 0 4) ≤ v2 then (some ((-1 : Int32), M))
  else ((cz_bi (f_MO_hash M (1 : Int32) ((5 : Int32) * v2)) (fun r15 M15 => (if r15 = a1 then (some (v2, M15))
  else (rec2 M15 (v2 + 1)))))))
def f_MO_blockOf (M : cz_M) (a1 : Int32) : Option (Int32 × cz_M) :=
  cz_lp2 (l_MO_blockOf_2 a1) 100 M (0 : Int32)
def f_MO_parent (M : cz_M) (a1 : Int32) : Option (Int32 × cz_M) :=
  (if a1 = 0 then (some ((-1 : Int32), M))
  else ((if ((5 : Int32) * a1) < 0 ∨ mo_ln 1 ≤ ((5 : Int32) * a1).toNatClampNeg then none else (cz_bi (f_MO_blockOf M (M.1 1 ((5 : Int32) * a1).toNatClampNeg)) (fun r17 M17 => some (r17, M17))))))
def l_MO_total_7 (a1 : Int32) (rec7 : cz_M → Int32 → Int32 → Int32 → Option (Int32 × cz_M)) (M : cz_M) (v2 : Int32) (v3 : Int32) (v4 : Int32) : Option (Int32 × cz_M) :=
  (if (20 : Int32) ≤ v4 then (some (v2, M))
  else ((if v3 < 0 then (some (v2, M))
  else ((if (((5 : Int32) * v3) + (3 : Int32)) < 0 ∨ mo_ln 1 ≤ (((5 : Int32) * v3) + (3 : Int32)).toNatClampNeg then none else (cz_bi (f_MO_parent M v3) (fun r33 M33 => rec7 M33 (v2 + (M.1 1 (((5 : Int32) * v3) + (3 : Int32)).toNatClampNeg)) r33 (v4 + 1))))))))
def f_MO_total (M : cz_M) (a1 : Int32) : Option (Int32 × cz_M) :=
  cz_lp4 (l_MO_total_7 a1) 100 M (0 : Int32) a1 (0 : Int32)
def b_MO_imported_36 (a1 : Int32) (rec7 : cz_M → Int32 → Int32 → Int32 → Option (Int32 × cz_M)) (M : cz_M) (v3 : Int32) (v4 : Int32) (s0 : Int32) : Option (Int32 × cz_M) :=
  (cz_bi (f_MO_parent M v3) (fun r39 M39 => rec7 M39 s0 r39 (v4 + 1)))
def b_MO_imported_35 (a1 : Int32) (rec7 : cz_M → Int32 → Int32 → Int32 → Option (Int32 × cz_M)) (M : cz_M) (v3 : Int32) (v4 : Int32) : Option (Int32 × cz_M) :=
  b_MO_imported_36 a1 rec7 M v3 v4 (0 : Int32)
def l_MO_imported_7 (a1 : Int32) (rec7 : cz_M → Int32 → Int32 → Int32 → Option (Int32 × cz_M)) (M : cz_M) (v2 : Int32) (v3 : Int32) (v4 : Int32) : Option (Int32 × cz_M) :=
  (if (20 : Int32) ≤ v4 then ((if v2 = 0 ∨ v2 = 1 then some (v2, M) else none))
  else ((if v3 < 0 then ((if v2 = 0 ∨ v2 = 1 then some (v2, M) else none))
  else ((if v2 = 0 then (b_MO_imported_35 a1 rec7 M v3 v4)
  else ((if v3 < 0 ∨ mo_ln 3 ≤ v3.toNatClampNeg then none else (if (M.1 3 v3.toNatClampNeg) < 0 then (b_MO_imported_35 a1 rec7 M v3 v4)
  else (b_MO_imported_36 a1 rec7 M v3 v4 (1 : Int32))))))))))
def f_MO_imported (M : cz_M) (a1 : Int32) : Option (Int32 × cz_M) :=
  cz_lp4 (l_MO_imported_7 a1) 100 M (1 : Int32) a1 (0 : Int32)
def b_MO_greatest_39 (a1 : Int32) (rec4 : cz_M → Int32 → Int32 → Option (Int32 × cz_M)) (M : cz_M) (v2 : Int32) (v3 : Int32) : Option (Int32 × cz_M) :=
  rec4 M v2 (v3 + 1)
def b_MO_greatest_24 (a1 : Int32) (rec4 : cz_M → Int32 → Int32 → Option (Int32 × cz_M)) (M : cz_M) (v2 : Int32) (v3 : Int32) : Option (Int32 × cz_M) :=
  (cz_bi (f_MO_total M v3) (fun r26 M26 => (cz_bi (f_MO_total M26 v2) (fun r31 M31 => (if r26 ≤ r31 then (b_MO_greatest_39 a1 rec4 M31 v2 v3)
  else (b_MO_greatest_39 a1 rec4 M31 v3 v3))))))
def l_MO_greatest_4 (a1 : Int32) (rec4 : cz_M → Int32 → Int32 → Option (Int32 × cz_M)) (M : cz_M) (v2 : Int32) (v3 : Int32) : Option (Int32 × cz_M) :=
  (if (M.1 0 4) ≤ v3 then (some (v2, M))
  else ((if a1 = 0 then (b_MO_greatest_24 a1 rec4 M v2 v3)
  else ((cz_bi (f_MO_imported M v3) (fun r18 M18 => (if r18 = 0 then (b_MO_greatest_39 a1 rec4 M18 v2 v3)
  else (b_MO_greatest_24 a1 rec4 M18 v2 v3))))))))
def f_MO_greatest (M : cz_M) (a1 : Int32) : Option (Int32 × cz_M) :=
  cz_lp3 (l_MO_greatest_4 a1) 100 M (0 : Int32) (1 : Int32)
def l_MO_ofHead_8 (a1 : Int32) (rec8 : cz_M → Int32 → Int32 → Option (Int32 × cz_M)) (M : cz_M) (v2 : Int32) (v3 : Int32) : Option (Int32 × cz_M) :=
  (if (20 : Int32) ≤ v3 then (some ((-1 : Int32), M))
  else ((if v2 < 0 then (some ((-1 : Int32), M))
  else ((if (((5 : Int32) * v2) + (1 : Int32)) < 0 ∨ mo_ln 1 ≤ (((5 : Int32) * v2) + (1 : Int32)).toNatClampNeg then none else (if (M.1 1 (((5 : Int32) * v2) + (1 : Int32)).toNatClampNeg) = a1 then (some (v2, M))
  else ((cz_bi (f_MO_parent M v2) (fun r36 M36 => rec8 M36 r36 (v3 + 1))))))))))
def f_MO_ofHead (M : cz_M) (a1 : Int32) : Option (Int32 × cz_M) :=
  (cz_bi (f_MO_greatest M (1 : Int32)) (fun r2 M2 => cz_lp3 (l_MO_ofHead_8 a1) 100 M2 r2 (0 : Int32)))
def b_MO_good_105 (a1 : Int32) (M : cz_M) (v2 : Int32) (s0 : Int32) : Option (Int32 × cz_M) :=
  (if s0 = 0 then (some ((0 : Int32), M))
  else ((if (a1 + (1 : Int32)) < 0 ∨ mo_ln 17 ≤ (a1 + (1 : Int32)).toNatClampNeg then none else (if (((5 : Int32) * v2) + (1 : Int32)) < 0 ∨ mo_ln 1 ≤ (((5 : Int32) * v2) + (1 : Int32)).toNatClampNeg then none else (if (M.1 17 (a1 + (1 : Int32)).toNatClampNeg) = ((M.1 1 (((5 : Int32) * v2) + (1 : Int32)).toNatClampNeg) + (1 : Int32)) then ((if (a1 + (2 : Int32)) < 0 ∨ mo_ln 17 ≤ (a1 + (2 : Int32)).toNatClampNeg then none else (if (((5 : Int32) * v2) + (2 : Int32)) < 0 ∨ mo_ln 1 ≤ (((5 : Int32) * v2) + (2 : Int32)).toNatClampNeg then none else (if (M.1 17 (a1 + (2 : Int32)).toNatClampNeg) ≤ (M.1 1 (((5 : Int32) * v2) + (2 : Int32)).toNatClampNeg) then (some ((0 : Int32), M))
  else (some ((1 : Int32), M))))))
  else (some ((0 : Int32), M)))))))
def b_MO_good_104 (a1 : Int32) (M : cz_M) (v2 : Int32) : Option (Int32 × cz_M) :=
  b_MO_good_105 a1 M v2 (0 : Int32)
def b_MO_good_63 (a1 : Int32) (M : cz_M) (v2 : Int32) (v3 : Int32) (s0 : Int32) : Option (Int32 × cz_M) :=
  (if (a1 + (3 : Int32)) < 0 ∨ mo_ln 17 ≤ (a1 + (3 : Int32)).toNatClampNeg then none else (if (M.1 17 (a1 + (3 : Int32)).toNatClampNeg) < (1 : Int32) then (b_MO_good_104 a1 M v2)
  else ((if (a1 + (3 : Int32)) < 0 ∨ mo_ln 17 ≤ (a1 + (3 : Int32)).toNatClampNeg then none else (if (99 : Int32) < (M.1 17 (a1 + (3 : Int32)).toNatClampNeg) then (b_MO_good_104 a1 M v2)
  else ((if ((v3 / (4 : Int32)) + (1 : Int32)) < s0 then (b_MO_good_104 a1 M v2)
  else (b_MO_good_105 a1 M v2 (1 : Int32)))))))))
def f_MO_good (M : cz_M) (a1 : Int32) : Option (Int32 × cz_M) :=
  (if a1 < 0 ∨ mo_ln 17 ≤ a1.toNatClampNeg then none else (cz_bi (f_MO_blockOf M (M.1 17 a1.toNatClampNeg)) (fun r7 M7 => (if 0 ≤ r7 then ((if (((5 : Int32) * r7) + (3 : Int32)) < 0 ∨ mo_ln 1 ≤ (((5 : Int32) * r7) + (3 : Int32)).toNatClampNeg then none else (if (a1 + (3 : Int32)) < 0 ∨ mo_ln 17 ≤ (a1 + (3 : Int32)).toNatClampNeg then none else (if (M7.1 1 (((5 : Int32) * r7) + (3 : Int32)).toNatClampNeg) ≤ (M7.1 17 (a1 + (3 : Int32)).toNatClampNeg) then ((if (a1 + (3 : Int32)) < 0 ∨ mo_ln 17 ≤ (a1 + (3 : Int32)).toNatClampNeg then none else b_MO_good_63 a1 M7 r7 (M7.1 1 (((5 : Int32) * r7) + (3 : Int32)).toNatClampNeg) ((M7.1 17 (a1 + (3 : Int32)).toNatClampNeg) - (M7.1 1 (((5 : Int32) * r7) + (3 : Int32)).toNatClampNeg))))
  else ((if (a1 + (3 : Int32)) < 0 ∨ mo_ln 17 ≤ (a1 + (3 : Int32)).toNatClampNeg then none else b_MO_good_63 a1 M7 r7 (M7.1 1 (((5 : Int32) * r7) + (3 : Int32)).toNatClampNeg) ((M7.1 1 (((5 : Int32) * r7) + (3 : Int32)).toNatClampNeg) - (M7.1 17 (a1 + (3 : Int32)).toNatClampNeg))))))))
  else (some ((0 : Int32), M7))))))
def b_MO_add_34 (a1 : Int32) (M : cz_M) : Option cz_M :=
  (if (M.1 0 4) < 0 ∨ mo_ln 3 ≤ (M.1 0 4).toNatClampNeg then none else some (cz_i (cz_i M 3 (M.1 0 4).toNatClampNeg (-1 : Int32)) 0 4 (((cz_i M 3 (M.1 0 4).toNatClampNeg (-1 : Int32)).1 0 4) + (1 : Int32))))
def l_MO_add_2 (a1 : Int32) (rec2 : cz_M → Int32 → Option cz_M) (M : cz_M) (v2 : Int32) : Option cz_M :=
  (if (5 : Int32) ≤ v2 then (b_MO_add_34 a1 M)
  else ((if (a1 + v2) < 0 ∨ mo_ln 17 ≤ (a1 + v2).toNatClampNeg then none else (if (((5 : Int32) * (M.1 0 4)) + v2) < 0 ∨ mo_ln 1 ≤ (((5 : Int32) * (M.1 0 4)) + v2).toNatClampNeg then none else rec2 (cz_i M 1 (((5 : Int32) * (M.1 0 4)) + v2).toNatClampNeg (M.1 17 (a1 + v2).toNatClampNeg)) (v2 + 1)))))
def f_MO_add (M : cz_M) (a1 : Int32) : Option cz_M :=
  cz_lp2 (l_MO_add_2 a1) 100 M (0 : Int32)
def b_MO_write_123 (a1 : Int32) (M : cz_M) (v2 : Int32) : Option cz_M :=
  some (cz_i M 0 26 ((M.1 0 26) + ((1 : Int32) + v2)))
def l_MO_write_89 (a1 : Int32) (rec89 : cz_M → Int32 → Int32 → Option cz_M) (M : cz_M) (v2 : Int32) (v3 : Int32) : Option cz_M :=
  (if v2 < v3 then (b_MO_write_123 a1 M v2)
  else ((if ((M.1 0 26) + v3) < 0 ∨ mo_ln 18 ≤ ((M.1 0 26) + v3).toNatClampNeg then none else rec89 (cz_i M 18 ((M.1 0 26) + v3).toNatClampNeg ((a1 >>> (((8 : Int32) * (v2 - v3)) &&& 31)) &&& (255 : Int32))) v2 (v3 + 1))))
def b_MO_write_72 (a1 : Int32) (M : cz_M) (s0 : Int32) : Option cz_M :=
  (if (M.1 0 26) < 0 ∨ mo_ln 18 ≤ (M.1 0 26).toNatClampNeg then none else cz_lp3 (l_MO_write_89 a1) 100 (cz_i M 18 (M.1 0 26).toNatClampNeg ((128 : Int32) + s0)) s0 (1 : Int32))
def b_MO_write_32 (a1 : Int32) (M : cz_M) : Option cz_M :=
  (if a1 = 0 then (b_MO_write_72 a1 M (0 : Int32))
  else ((if (256 : Int32) ≤ a1 then ((if (65536 : Int32) ≤ a1 then ((if (16777216 : Int32) ≤ a1 then (b_MO_write_72 a1 M (4 : Int32))
  else (b_MO_write_72 a1 M (3 : Int32))))
  else (b_MO_write_72 a1 M (2 : Int32))))
  else (b_MO_write_72 a1 M (1 : Int32)))))
def f_MO_write (M : cz_M) (a1 : Int32) : Option cz_M :=
  (if a1 ≤ 0 then (b_MO_write_32 a1 M)
  else ((if (128 : Int32) ≤ a1 then (b_MO_write_32 a1 M)
  else ((if (M.1 0 26) < 0 ∨ mo_ln 18 ≤ (M.1 0 26).toNatClampNeg then none else some (cz_i (cz_i M 18 (M.1 0 26).toNatClampNeg a1) 0 26 (((cz_i M 18 (M.1 0 26).toNatClampNeg a1).1 0 26) + (1 : Int32))))))))
def f_MO_start (M : cz_M) (a1 : Int32) (a2 : Int32) : Option cz_M :=
  (cz_bv (f_MO_write (cz_i M 0 26 (0 : Int32)) a1) (fun M7 => (cz_bv (f_MO_write M7 a2) (fun M12 => some M12))))
def b_MO_wrap_30 (a1 : Int32) (M : cz_M) : Option cz_M :=
  (if a1 < 0 ∨ mo_ln 18 ≤ a1.toNatClampNeg then none else some (cz_i (cz_i M 18 a1.toNatClampNeg (((192 : Int32) + (M.1 0 26)) - a1)) 0 26 (((cz_i M 18 a1.toNatClampNeg (((192 : Int32) + (M.1 0 26)) - a1)).1 0 26) + (1 : Int32))))
def l_MO_wrap_5 (a1 : Int32) (rec5 : cz_M → Int32 → Option cz_M) (M : cz_M) (v2 : Int32) : Option cz_M :=
  (if v2 ≤ a1 then (b_MO_wrap_30 a1 M)
  else ((if (v2 - (1 : Int32)) < 0 ∨ mo_ln 18 ≤ (v2 - (1 : Int32)).toNatClampNeg then none else (if v2 < 0 ∨ mo_ln 18 ≤ v2.toNatClampNeg then none else rec5 (cz_i M 18 v2.toNatClampNeg (M.1 18 (v2 - (1 : Int32)).toNatClampNeg)) (v2 - 1)))))
def f_MO_wrap (M : cz_M) (a1 : Int32) : Option cz_M :=
  cz_lp2 (l_MO_wrap_5 a1) 100 M (M.1 0 26)
def b_MO_post_59 (a1 : Int32) (M : cz_M) (v2 : Int32) : Option cz_M :=
  (if v2 < 0 ∨ mo_ln 13 ≤ v2.toNatClampNeg then none else (if a1 < 0 ∨ mo_ln 12 ≤ a1.toNatClampNeg then none else (if a1 < 0 ∨ mo_ln 12 ≤ a1.toNatClampNeg then none else some (cz_i (cz_i M 13 v2.toNatClampNeg (M.1 0 26)) 12 a1.toNatClampNeg (((cz_i M 13 v2.toNatClampNeg (M.1 0 26)).1 12 a1.toNatClampNeg) + (1 : Int32))))))
def l_MO_post_28 (a1 : Int32) (rec28 : cz_M → Int32 → Int32 → Option cz_M) (M : cz_M) (v2 : Int32) (v3 : Int32) : Option cz_M :=
  (if (M.1 0 26) ≤ v3 then (b_MO_post_59 a1 M v2)
  else ((if v3 < 0 ∨ mo_ln 18 ≤ v3.toNatClampNeg then none else (if (((56 : Int32) * v2) + v3) < 0 ∨ mo_ln 14 ≤ (((56 : Int32) * v2) + v3).toNatClampNeg then none else rec28 (cz_i M 14 (((56 : Int32) * v2) + v3).toNatClampNeg (M.1 18 v3.toNatClampNeg)) v2 (v3 + 1)))))
def f_MO_post (M : cz_M) (a1 : Int32) : Option cz_M :=
  (cz_bv (f_MO_wrap M (0 : Int32)) (fun M2 => (if a1 < 0 ∨ mo_ln 12 ≤ a1.toNatClampNeg then none else (if (4 : Int32) ≤ (M2.1 12 a1.toNatClampNeg) then (some M2)
  else ((if a1 < 0 ∨ mo_ln 12 ≤ a1.toNatClampNeg then none else cz_lp3 (l_MO_post_28 a1) 100 M2 (((4 : Int32) * a1) + (M2.1 12 a1.toNatClampNeg)) (0 : Int32)))))))
def f_MO_isPeer (M : cz_M) (a0 : Int32) : Option (Int32 × cz_M) :=
  (if a0 < 0 then (some ((0 : Int32), M))
  else ((if (4 : Int32) ≤ a0 then (some ((0 : Int32), M))
  else (some ((1 : Int32), M)))))
def b_MO_send_145 (a1 : Int32) (rec78 : cz_M → Int32 → Option (Int32 × cz_M)) (M : cz_M) (v2 : Int32) : Option (Int32 × cz_M) :=
  rec78 M (v2 + 1)
def l_MO_send_108 (a1 : Int32) (rec78 : cz_M → Int32 → Option (Int32 × cz_M)) (rec108 : cz_M → Int32 → Int32 → Option (Int32 × cz_M)) (M : cz_M) (v2 : Int32) (v3 : Int32) : Option (Int32 × cz_M) :=
  (if (56 : Int32) ≤ v3 then (b_MO_send_145 a1 rec78 M v2)
  else ((if ((((56 : Int32) * v2) + (56 : Int32)) + v3) < 0 ∨ mo_ln 14 ≤ ((((56 : Int32) * v2) + (56 : Int32)) + v3).toNatClampNeg then none else (if (((56 : Int32) * v2) + v3) < 0 ∨ mo_ln 14 ≤ (((56 : Int32) * v2) + v3).toNatClampNeg then none else rec108 (cz_i M 14 (((56 : Int32) * v2) + v3).toNatClampNeg (M.1 14 ((((56 : Int32) * v2) + (56 : Int32)) + v3).toNatClampNeg)) v2 (v3 + 1)))))
def l_MO_send_78 (a1 : Int32) (rec78 : cz_M → Int32 → Option (Int32 × cz_M)) (M : cz_M) (v2 : Int32) : Option (Int32 × cz_M) :=
  (if a1 < 0 ∨ mo_ln 12 ≤ a1.toNatClampNeg then none else (if (((4 : Int32) * a1) + (M.1 12 a1.toNatClampNeg)) ≤ v2 then (some (M.1 0 19, M))
  else ((if (v2 + (1 : Int32)) < 0 ∨ mo_ln 13 ≤ (v2 + (1 : Int32)).toNatClampNeg then none else (if v2 < 0 ∨ mo_ln 13 ≤ v2.toNatClampNeg then none else cz_lp3 (l_MO_send_108 a1 rec78) 100 (cz_i M 13 v2.toNatClampNeg (M.1 13 (v2 + (1 : Int32)).toNatClampNeg)) v2 (0 : Int32))))))
def b_MO_send_64 (a1 : Int32) (M : cz_M) : Option (Int32 × cz_M) :=
  (if a1 < 0 ∨ mo_ln 12 ≤ a1.toNatClampNeg then none else (if a1 < 0 ∨ mo_ln 12 ≤ a1.toNatClampNeg then none else cz_lp2 (l_MO_send_78 a1) 100 (cz_i M 12 a1.toNatClampNeg ((M.1 12 a1.toNatClampNeg) - (1 : Int32))) ((4 : Int32) * a1)))
def l_MO_send_32 (a1 : Int32) (rec32 : cz_M → Int32 → Option (Int32 × cz_M)) (M : cz_M) (v2 : Int32) : Option (Int32 × cz_M) :=
  (if (M.1 0 19) ≤ v2 then (b_MO_send_64 a1 M)
  else ((if (((224 : Int32) * a1) + v2) < 0 ∨ mo_ln 14 ≤ (((224 : Int32) * a1) + v2).toNatClampNeg then none else (if v2 < 0 ∨ mo_ln 15 ≤ v2.toNatClampNeg then none else rec32 (cz_i M 15 v2.toNatClampNeg (M.1 14 (((224 : Int32) * a1) + v2).toNatClampNeg)) (v2 + 1)))))
def f_MO_send (M : cz_M) (a1 : Int32) : Option (Int32 × cz_M) :=
  (cz_bi (f_MO_isPeer M a1) (fun r1 M1 => (if r1 = 0 then (some ((-1 : Int32), M1))
  else ((if a1 < 0 ∨ mo_ln 12 ≤ a1.toNatClampNeg then none else (if (M1.1 12 a1.toNatClampNeg) = 0 then (some ((-1 : Int32), M1))
  else ((if ((4 : Int32) * a1) < 0 ∨ mo_ln 13 ≤ ((4 : Int32) * a1).toNatClampNeg then none else cz_lp2 (l_MO_send_32 a1) 100 (cz_i M1 0 19 (M1.1 13 ((4 : Int32) * a1).toNatClampNeg)) (0 : Int32)))))))))
def l_MO_put_29 (a1 : Int32) (a2 : Int64) (rec29 : cz_M → Int32 → Option (Int32 × cz_M)) (M : cz_M) (v4 : Int32) : Option (Int32 × cz_M) :=
  (if v4 < 0 then (some ((1 : Int32), M))
  else ((if (M.1 0 19) < 0 ∨ mo_ln 15 ≤ (M.1 0 19).toNatClampNeg then none else rec29 (cz_i (cz_i M 15 (M.1 0 19).toNatClampNeg (((cz_lshr a2 ((8 : Int32) * v4)).toInt32) &&& (255 : Int32))) 0 19 (((cz_i M 15 (M.1 0 19).toNatClampNeg (((cz_lshr a2 ((8 : Int32) * v4)).toInt32) &&& (255 : Int32))).1 0 19) + (1 : Int32))) (v4 - 1))))
def f_MO_put (M : cz_M) (a1 : Int32) (a2 : Int64) : Option (Int32 × cz_M) :=
  (if a1 < (1 : Int32) then (some ((0 : Int32), M))
  else ((if (8 : Int32) < a1 then (some ((0 : Int32), M))
  else ((if ((M.1 0 19) + a1) ≤ (56 : Int32) then (cz_lp2 (l_MO_put_29 a1 a2) 100 M (a1 - (1 : Int32)))
  else (some ((0 : Int32), M)))))))
def f_MO_clear (M : cz_M) : Option cz_M :=
  some (cz_i M 0 19 (0 : Int32))
def b_MO_wire_24 (a1 : Int32) (M : cz_M) : Option (Int32 × cz_M) :=
  some ((-1 : Int32), M)
def f_MO_wire (M : cz_M) (a1 : Int32) : Option (Int32 × cz_M) :=
  (if a1 = (-1 : Int32) then (some (M.1 0 19, M))
  else ((if a1 < 0 then (b_MO_wire_24 a1 M)
  else ((if a1 < (M.1 0 19) then ((if a1 < 0 ∨ mo_ln 15 ≤ a1.toNatClampNeg then none else some (M.1 15 a1.toNatClampNeg, M)))
  else (b_MO_wire_24 a1 M))))))
def b_MO_number_151 (a1 : Int32) (M : cz_M) (v3 : Int32) (w4 : Int64) (s0 : Int32) : Option (Int32 × cz_M) :=
  (if s0 = 0 then ((if 0 < (lg_cmp w4 (2147483647 : Int64)) then (some ((0 : Int32), cz_i (cz_i M 0 21 ((M.1 0 21) + v3)) 0 22 w4.toInt32))
  else (some ((1 : Int32), cz_i (cz_i M 0 21 ((M.1 0 21) + v3)) 0 22 w4.toInt32))))
  else (some ((0 : Int32), cz_i (cz_i M 0 21 ((M.1 0 21) + v3)) 0 22 w4.toInt32)))
def b_MO_number_150 (a1 : Int32) (M : cz_M) (v3 : Int32) (w4 : Int64) : Option (Int32 × cz_M) :=
  b_MO_number_151 a1 M v3 w4 (0 : Int32)
def b_MO_number_146 (a1 : Int32) (M : cz_M) (v3 : Int32) (w4 : Int64) : Option (Int32 × cz_M) :=
  b_MO_number_151 a1 M v3 w4 (1 : Int32)
def b_MO_number_129 (a1 : Int32) (M : cz_M) (v3 : Int32) (w4 : Int64) : Option (Int32 × cz_M) :=
  (if v3 ≤ (1 : Int32) then (b_MO_number_150 a1 M v3 w4)
  else ((if (M.1 0 21) < 0 ∨ mo_ln 15 ≤ (M.1 0 21).toNatClampNeg then none else (if (M.1 15 (M.1 0 21).toNatClampNeg) = 0 then (b_MO_number_146 a1 M v3 w4)
  else (b_MO_number_150 a1 M v3 w4)))))
def b_MO_number_115 (a1 : Int32) (M : cz_M) (v3 : Int32) (w4 : Int64) : Option (Int32 × cz_M) :=
  (if v3 = (1 : Int32) then ((if (lg_cmp w4 (128 : Int64)) < 0 then (b_MO_number_146 a1 M v3 w4)
  else (b_MO_number_129 a1 M v3 w4)))
  else (b_MO_number_129 a1 M v3 w4))
def l_MO_number_81 (a1 : Int32) (rec81 : cz_M → Int32 → Int64 → Int32 → Option (Int32 × cz_M)) (M : cz_M) (v3 : Int32) (w4 : Int64) (v6 : Int32) : Option (Int32 × cz_M) :=
  (if v3 ≤ v6 then (b_MO_number_115 a1 M v3 w4)
  else ((if ((M.1 0 21) + v6) < 0 ∨ mo_ln 15 ≤ ((M.1 0 21) + v6).toNatClampNeg then none else rec81 M v3 ((w4 * (256 : Int64)) + ((M.1 15 ((M.1 0 21) + v6).toNatClampNeg).toInt64)) (v6 + 1))))
def b_MO_number_48 (a1 : Int32) (M : cz_M) (v2 : Int32) : Option (Int32 × cz_M) :=
  (if (v2 - (128 : Int32)) < 0 then (some ((0 : Int32), M))
  else ((if (4 : Int32) < (v2 - (128 : Int32)) then (some ((0 : Int32), M))
  else ((if ((M.1 0 21) + (v2 - (128 : Int32))) ≤ a1 then (cz_lp4 (l_MO_number_81 a1) 100 M (v2 - (128 : Int32)) (0 : Int64) (0 : Int32))
  else (some ((0 : Int32), M)))))))
def f_MO_number (M : cz_M) (a1 : Int32) : Option (Int32 × cz_M) :=
  (if (M.1 0 21) < a1 then ((if (M.1 0 21) < 0 ∨ mo_ln 15 ≤ (M.1 0 21).toNatClampNeg then none else (if (M.1 15 (M.1 0 21).toNatClampNeg) ≤ 0 then (b_MO_number_48 a1 (cz_i M 0 21 ((M.1 0 21) + (1 : Int32))) (M.1 15 (M.1 0 21).toNatClampNeg))
  else ((if (128 : Int32) ≤ (M.1 15 (M.1 0 21).toNatClampNeg) then (b_MO_number_48 a1 (cz_i M 0 21 ((M.1 0 21) + (1 : Int32))) (M.1 15 (M.1 0 21).toNatClampNeg))
  else (some ((1 : Int32), cz_i (cz_i M 0 21 ((M.1 0 21) + (1 : Int32))) 0 22 (M.1 15 (M.1 0 21).toNatClampNeg))))))))
  else (some ((0 : Int32), M)))
def f_MO_opening (M : cz_M) (a1 : Int32) : Option (Int32 × cz_M) :=
  (if a1 ≤ (M.1 0 21) then (some ((-1 : Int32), M))
  else ((if (M.1 0 21) < 0 ∨ mo_ln 15 ≤ (M.1 0 21).toNatClampNeg then none else (if (192 : Int32) ≤ (M.1 15 (M.1 0 21).toNatClampNeg) then ((if (M.1 0 21) < 0 ∨ mo_ln 15 ≤ (M.1 0 21).toNatClampNeg then none else (if (55 : Int32) < ((M.1 15 (M.1 0 21).toNatClampNeg) - (192 : Int32)) then (some ((-1 : Int32), cz_i M 0 21 ((M.1 0 21) + (1 : Int32))))
  else ((if a1 < (((cz_i M 0 21 ((M.1 0 21) + (1 : Int32))).1 0 21) + ((M.1 15 (M.1 0 21).toNatClampNeg) - (192 : Int32))) then (some ((-1 : Int32), cz_i M 0 21 ((M.1 0 21) + (1 : Int32))))
  else (some (((cz_i M 0 21 ((M.1 0 21) + (1 : Int32))).1 0 21) + ((M.1 15 (M.1 0 21).toNatClampNeg) - (192 : Int32)), cz_i M 0 21 ((M.1 0 21) + (1 : Int32)))))))))
  else (some ((-1 : Int32), M))))))
def b_MO_items_139 (a1 : Int32) (M : cz_M) : Option (Int32 × cz_M) :=
  some ((1 : Int32), M)
def b_MO_items_126 (a1 : Int32) (M : cz_M) : Option (Int32 × cz_M) :=
  (if a1 = 0 then (b_MO_items_139 a1 M)
  else ((if ((M.1 0 24) - (M.1 0 24) / (5 : Int32) * (5 : Int32)) = 0 then (b_MO_items_139 a1 M)
  else (some ((0 : Int32), M)))))
def b_MO_items_70 (a1 : Int32) (rec26 : cz_M → Int32 → Int32 → Option (Int32 × cz_M)) (M : cz_M) (v2 : Int32) (v3 : Int32) : Option (Int32 × cz_M) :=
  (cz_bi (f_MO_number M v3) (fun r72 M72 => (if r72 = 0 then (some ((0 : Int32), M72))
  else ((if (M72.1 0 24) < 0 ∨ mo_ln 17 ≤ (M72.1 0 24).toNatClampNeg then none else (if a1 = 0 then (rec26 (cz_i (cz_i M72 17 (M72.1 0 24).toNatClampNeg (M72.1 0 22)) 0 24 (((cz_i M72 17 (M72.1 0 24).toNatClampNeg (M72.1 0 22)).1 0 24) + (1 : Int32))) v2 v3)
  else ((if (((cz_i (cz_i M72 17 (M72.1 0 24).toNatClampNeg (M72.1 0 22)) 0 24 (((cz_i M72 17 (M72.1 0 24).toNatClampNeg (M72.1 0 22)).1 0 24) + (1 : Int32))).1 0 24) - ((cz_i (cz_i M72 17 (M72.1 0 24).toNatClampNeg (M72.1 0 22)) 0 24 (((cz_i M72 17 (M72.1 0 24).toNatClampNeg (M72.1 0 22)).1 0 24) + (1 : Int32))).1 0 24) / (5 : Int32) * (5 : Int32)) = 0 then ((if ((cz_i (cz_i M72 17 (M72.1 0 24).toNatClampNeg (M72.1 0 22)) 0 24 (((cz_i M72 17 (M72.1 0 24).toNatClampNeg (M72.1 0 22)).1 0 24) + (1 : Int32))).1 0 21) = v3 then (rec26 (cz_i (cz_i M72 17 (M72.1 0 24).toNatClampNeg (M72.1 0 22)) 0 24 (((cz_i M72 17 (M72.1 0 24).toNatClampNeg (M72.1 0 22)).1 0 24) + (1 : Int32))) v2 v3)
  else (some ((0 : Int32), cz_i (cz_i M72 17 (M72.1 0 24).toNatClampNeg (M72.1 0 22)) 0 24 (((cz_i M72 17 (M72.1 0 24).toNatClampNeg (M72.1 0 22)).1 0 24) + (1 : Int32))))))
  else (rec26 (cz_i (cz_i M72 17 (M72.1 0 24).toNatClampNeg (M72.1 0 22)) 0 24 (((cz_i M72 17 (M72.1 0 24).toNatClampNeg (M72.1 0 22)).1 0 24) + (1 : Int32))) v2 v3)))))))))
def b_MO_items_53 (a1 : Int32) (rec26 : cz_M → Int32 → Int32 → Option (Int32 × cz_M)) (M : cz_M) (v2 : Int32) (v3 : Int32) : Option (Int32 × cz_M) :=
  (if v3 < 0 then (some ((0 : Int32), M))
  else ((if a1 = 0 then ((if (M.1 0 24) = (8 : Int32) then (some ((0 : Int32), M))
  else (b_MO_items_70 a1 rec26 M v2 v3)))
  else (b_MO_items_70 a1 rec26 M v2 v3))))
def l_MO_items_26 (a1 : Int32) (rec26 : cz_M → Int32 → Int32 → Option (Int32 × cz_M)) (M : cz_M) (v2 : Int32) (v3 : Int32) : Option (Int32 × cz_M) :=
  (if v2 ≤ (M.1 0 21) then (b_MO_items_126 a1 M)
  else ((if a1 = 0 then (b_MO_items_53 a1 rec26 M v2 v3)
  else ((if ((M.1 0 24) - (M.1 0 24) / (5 : Int32) * (5 : Int32)) = 0 then ((cz_bi (f_MO_opening M v2) (fun r49 M49 => b_MO_items_53 a1 rec26 M49 v2 r49)))
  else (b_MO_items_53 a1 rec26 M v2 v3))))))
def f_MO_items (M : cz_M) (a1 : Int32) : Option (Int32 × cz_M) :=
  (cz_bi (f_MO_opening (cz_i M 0 24 (0 : Int32)) ((cz_i M 0 24 (0 : Int32)).1 0 19)) (fun r10 M10 => (if r10 = (M10.1 0 19) then (cz_lp3 (l_MO_items_26 a1) 100 M10 r10 r10)
  else (some ((0 : Int32), M10)))))
def b_MO_decode_143 (M : cz_M) (v1 : Int32) : Option (Int32 × cz_M) :=
  (if (M.1 0 21) = (M.1 0 19) then (some (v1, M))
  else (some ((-1 : Int32), M)))
def b_MO_decode_135 (M : cz_M) (v1 : Int32) (s0 : Int32) : Option (Int32 × cz_M) :=
  (cz_bi (f_MO_items M s0) (fun r135 M135 => (if r135 = 0 then (some ((-1 : Int32), M135))
  else (b_MO_decode_143 M135 v1))))
def b_MO_decode_124 (M : cz_M) (v1 : Int32) : Option (Int32 × cz_M) :=
  (if v1 = (2 : Int32) then (b_MO_decode_135 M v1 (1 : Int32))
  else (b_MO_decode_135 M v1 (0 : Int32)))
def b_MO_decode_114 (M : cz_M) (v1 : Int32) : Option (Int32 × cz_M) :=
  (if v1 = (2 : Int32) then (b_MO_decode_124 M v1)
  else ((if v1 = (4 : Int32) then (b_MO_decode_124 M v1)
  else (b_MO_decode_143 M v1))))
def l_MO_decode_80 (rec80 : cz_M → Int32 → Int32 → Int32 → Option (Int32 × cz_M)) (M : cz_M) (v1 : Int32) (v2 : Int32) (v3 : Int32) : Option (Int32 × cz_M) :=
  (if v2 ≤ v3 then (b_MO_decode_114 M v1)
  else ((cz_bi (f_MO_number M (M.1 0 19)) (fun r90 M90 => (if r90 = 0 then (some ((-1 : Int32), M90))
  else ((if v3 < 0 ∨ mo_ln 16 ≤ v3.toNatClampNeg then none else rec80 (cz_i M90 16 v3.toNatClampNeg (M90.1 0 22)) v1 v2 (v3 + 1))))))))
def b_MO_decode_77 (M : cz_M) (v1 : Int32) (s0 : Int32) : Option (Int32 × cz_M) :=
  cz_lp4 (l_MO_decode_80) 100 M v1 s0 (0 : Int32)
def b_MO_decode_72 (M : cz_M) (v1 : Int32) : Option (Int32 × cz_M) :=
  b_MO_decode_77 M v1 (2 : Int32)
def f_MO_decode (M : cz_M) : Option (Int32 × cz_M) :=
  (cz_bi (f_MO_opening (cz_i M 0 21 (0 : Int32)) ((cz_i M 0 21 (0 : Int32)).1 0 19)) (fun r10 M10 => (if r10 = (M10.1 0 19) then ((cz_bi (f_MO_number M10 (M10.1 0 19)) (fun r25 M25 => (if r25 = 0 then (some ((-1 : Int32), M25))
  else ((if (M25.1 0 22) ≤ (5 : Int32) then ((if (M25.1 0 22) = (5 : Int32) then (b_MO_decode_77 M25 (M25.1 0 22) (0 : Int32))
  else ((if (M25.1 0 22) = (1 : Int32) then (b_MO_decode_77 M25 (M25.1 0 22) (3 : Int32))
  else ((if (M25.1 0 22) = 0 then (b_MO_decode_72 M25 (M25.1 0 22))
  else ((if (M25.1 0 22) = (3 : Int32) then (b_MO_decode_72 M25 (M25.1 0 22))
  else (b_MO_decode_77 M25 (M25.1 0 22) (1 : Int32))))))))))
  else (some ((-1 : Int32), M25))))))))
  else (some ((-1 : Int32), M10)))))
def f_MO_leave (M : cz_M) (a1 : Int32) (a2 : Int32) : Option cz_M :=
  (if a1 < 0 ∨ mo_ln 4 ≤ a1.toNatClampNeg then none else (if a1 < 0 ∨ mo_ln 8 ≤ a1.toNatClampNeg then none else (if a1 < 0 ∨ mo_ln 10 ≤ a1.toNatClampNeg then none else (if a1 < 0 ∨ mo_ln 12 ≤ a1.toNatClampNeg then none else some (cz_i (cz_i (cz_i (cz_i M 4 a1.toNatClampNeg a2) 8 a1.toNatClampNeg (0 : Int32)) 10 a1.toNatClampNeg (0 : Int32)) 12 a1.toNatClampNeg (0 : Int32))))))
def f_MO_fault (M : cz_M) (a1 : Int32) (a2 : Int32) : Option (Int32 × cz_M) :=
  (if a1 < 0 ∨ mo_ln 5 ≤ a1.toNatClampNeg then none else (if a1 < 0 ∨ mo_ln 5 ≤ a1.toNatClampNeg then none else (if a1 < 0 ∨ mo_ln 5 ≤ a1.toNatClampNeg then none else (if (-3 : Int32) ≤ ((cz_i M 5 a1.toNatClampNeg ((M.1 5 a1.toNatClampNeg) - a2)).1 5 a1.toNatClampNeg) then (some ((0 : Int32), cz_i M 5 a1.toNatClampNeg ((M.1 5 a1.toNatClampNeg) - a2)))
  else ((cz_bv (f_MO_leave (cz_i M 5 a1.toNatClampNeg ((M.1 5 a1.toNatClampNeg) - a2)) a1 (3 : Int32)) (fun M24 => some ((0 : Int32), M24))))))))
def f_MO_merit (M : cz_M) (a1 : Int32) : Option (Int32 × cz_M) :=
  (if a1 < 0 ∨ mo_ln 5 ≤ a1.toNatClampNeg then none else (if (3 : Int32) ≤ (M.1 5 a1.toNatClampNeg) then ((if a1 < 0 ∨ mo_ln 5 ≤ a1.toNatClampNeg then none else some ((1 : Int32), cz_i M 5 a1.toNatClampNeg (3 : Int32))))
  else ((if a1 < 0 ∨ mo_ln 5 ≤ a1.toNatClampNeg then none else (if a1 < 0 ∨ mo_ln 5 ≤ a1.toNatClampNeg then none else some ((1 : Int32), cz_i M 5 a1.toNatClampNeg ((M.1 5 a1.toNatClampNeg) + (1 : Int32))))))))
def f_MO_open (M : cz_M) (a1 : Int32) : Option (Int32 × cz_M) :=
  (cz_bi (f_MO_isPeer M a1) (fun r1 M1 => (if r1 = 0 then (some ((0 : Int32), M1))
  else ((if a1 < 0 ∨ mo_ln 4 ≤ a1.toNatClampNeg then none else (if (M1.1 4 a1.toNatClampNeg) = 0 then ((if a1 < 0 ∨ mo_ln 4 ≤ a1.toNatClampNeg then none else (if a1 < 0 ∨ mo_ln 6 ≤ a1.toNatClampNeg then none else (if a1 < 0 ∨ mo_ln 7 ≤ a1.toNatClampNeg then none else (cz_bi (f_MO_greatest (cz_i (cz_i (cz_i M1 4 a1.toNatClampNeg (1 : Int32)) 6 a1.toNatClampNeg (0 : Int32)) 7 a1.toNatClampNeg (0 : Int32)) (1 : Int32)) (fun r43 M43 => (cz_bv (f_MO_start M43 (0 : Int32) (M43.1 0 0)) (fun M53 => (if (((5 : Int32) * r43) + (1 : Int32)) < 0 ∨ mo_ln 1 ≤ (((5 : Int32) * r43) + (1 : Int32)).toNatClampNeg then none else (cz_bv (f_MO_write M53 (M53.1 1 (((5 : Int32) * r43) + (1 : Int32)).toNatClampNeg)) (fun M67 => (cz_bv (f_MO_post M67 a1) (fun M72 => some ((1 : Int32), M72))))))))))))))
  else (some ((0 : Int32), M1))))))))
def b_MO_close_31 (a1 : Int32) (M : cz_M) : Option (Int32 × cz_M) :=
  (cz_bv (f_MO_leave M a1 (0 : Int32)) (fun M34 => some ((1 : Int32), M34)))
def f_MO_close (M : cz_M) (a1 : Int32) : Option (Int32 × cz_M) :=
  (cz_bi (f_MO_isPeer M a1) (fun r1 M1 => (if r1 = 0 then (some ((0 : Int32), M1))
  else ((if a1 < 0 ∨ mo_ln 4 ≤ a1.toNatClampNeg then none else (if (M1.1 4 a1.toNatClampNeg) = (1 : Int32) then (b_MO_close_31 a1 M1)
  else ((if a1 < 0 ∨ mo_ln 4 ≤ a1.toNatClampNeg then none else (if (M1.1 4 a1.toNatClampNeg) = (2 : Int32) then (b_MO_close_31 a1 M1)
  else (some ((0 : Int32), M1)))))))))))
def f_MO_greet (M : cz_M) (a1 : Int32) (a2 : Int32) : Option (Int32 × cz_M) :=
  (if a2 = 0 then ((if (0 : Int32) < 0 ∨ mo_ln 16 ≤ (0 : Int32).toNatClampNeg then none else (if (M.1 16 (0 : Int32).toNatClampNeg) = (M.1 0 0) then ((if a1 < 0 ∨ mo_ln 4 ≤ a1.toNatClampNeg then none else (if (1 : Int32) < 0 ∨ mo_ln 16 ≤ (1 : Int32).toNatClampNeg then none else (if a1 < 0 ∨ mo_ln 6 ≤ a1.toNatClampNeg then none else some ((1 : Int32), cz_i (cz_i M 4 a1.toNatClampNeg (2 : Int32)) 6 a1.toNatClampNeg ((cz_i M 4 a1.toNatClampNeg (2 : Int32)).1 16 (1 : Int32).toNatClampNeg))))))
  else ((cz_bv (f_MO_leave M a1 (0 : Int32)) (fun M49 => some ((1 : Int32), M49)))))))
  else ((cz_bi (f_MO_fault M a1 (2 : Int32)) (fun r7 M7 => (if r7 = 0 ∨ r7 = 1 then some (r7, M7) else none)))))
def b_MO_taken_104 (a1 : Int32) (M : cz_M) : Option (Int32 × cz_M) :=
  (if a1 < 0 ∨ mo_ln 7 ≤ a1.toNatClampNeg then none else (cz_bi (f_MO_merit (cz_i M 7 a1.toNatClampNeg (0 : Int32)) a1) (fun r113 M113 => (if r113 = 0 ∨ r113 = 1 then some (r113, M113) else none))))
def b_MO_taken_95 (a1 : Int32) (rec7 : cz_M → Int32 → Int32 → Int32 → Option (Int32 × cz_M)) (M : cz_M) (v3 : Int32) (v4 : Int32) (v5 : Int32) : Option (Int32 × cz_M) :=
  rec7 M v5 v3 (v4 + 5)
def b_MO_taken_63 (a1 : Int32) (M : cz_M) : Option (Int32 × cz_M) :=
  (cz_bi (f_MO_fault M a1 (2 : Int32)) (fun r66 M66 => (if r66 = 0 ∨ r66 = 1 then some (r66, M66) else none)))
def b_MO_taken_84 (a1 : Int32) (rec7 : cz_M → Int32 → Int32 → Int32 → Option (Int32 × cz_M)) (M : cz_M) (v4 : Int32) (v5 : Int32) (s0 : Int32) : Option (Int32 × cz_M) :=
  (if s0 = 0 then (b_MO_taken_95 a1 rec7 M s0 v4 v5)
  else ((cz_bv (f_MO_add M v4) (fun M92 => b_MO_taken_95 a1 rec7 M92 s0 v4 v5))))
def b_MO_taken_70 (a1 : Int32) (rec7 : cz_M → Int32 → Int32 → Int32 → Option (Int32 × cz_M)) (M : cz_M) (v4 : Int32) (v5 : Int32) : Option (Int32 × cz_M) :=
  (if (20 : Int32) ≤ (M.1 0 4) then (b_MO_taken_84 a1 rec7 M v4 v5 (0 : Int32))
  else (b_MO_taken_84 a1 rec7 M v4 v5 (1 : Int32)))
def l_MO_taken_7 (a1 : Int32) (rec7 : cz_M → Int32 → Int32 → Int32 → Option (Int32 × cz_M)) (M : cz_M) (v2 : Int32) (v3 : Int32) (v4 : Int32) : Option (Int32 × cz_M) :=
  (if (M.1 0 24) ≤ v4 then (b_MO_taken_104 a1 M)
  else ((if v3 = 0 then (b_MO_taken_104 a1 M)
  else ((cz_bi (f_MO_hash M (0 : Int32) v4) (fun r24 M24 => (cz_bi (f_MO_blockOf M24 r24) (fun r32 M32 => (if 0 ≤ r32 then (b_MO_taken_95 a1 rec7 M32 v3 v4 r24)
  else ((cz_bi (f_MO_good M32 v4) (fun r41 M41 => (if r41 = 0 then (b_MO_taken_63 a1 M41)
  else ((if v4 ≤ 0 then (b_MO_taken_70 a1 rec7 M41 v4 r24)
  else ((if v4 < 0 ∨ mo_ln 17 ≤ v4.toNatClampNeg then none else (if (M41.1 17 v4.toNatClampNeg) = v2 then (b_MO_taken_70 a1 rec7 M41 v4 r24)
  else (b_MO_taken_63 a1 M41)))))))))))))))))))
def f_MO_taken (M : cz_M) (a1 : Int32) : Option (Int32 × cz_M) :=
  cz_lp4 (l_MO_taken_7 a1) 100 M (0 : Int32) (1 : Int32) (0 : Int32)
def b_MO_headers_25 (a1 : Int32) (M : cz_M) : Option (Int32 × cz_M) :=
  (cz_bi (f_MO_fault M a1 (1 : Int32)) (fun r28 M28 => (if r28 = 0 ∨ r28 = 1 then some (r28, M28) else none)))
def b_MO_headers_131 (a1 : Int32) (M : cz_M) : Option (Int32 × cz_M) :=
  (cz_bi (f_MO_taken M a1) (fun r133 M133 => (if r133 = 0 ∨ r133 = 1 then some (r133, M133) else none)))
def f_MO_headers (M : cz_M) (a1 : Int32) : Option (Int32 × cz_M) :=
  (if a1 < 0 ∨ mo_ln 8 ≤ a1.toNatClampNeg then none else (if (M.1 8 a1.toNatClampNeg) = (1 : Int32) then ((if a1 < 0 ∨ mo_ln 10 ≤ a1.toNatClampNeg then none else (if (0 : Int32) < 0 ∨ mo_ln 16 ≤ (0 : Int32).toNatClampNeg then none else (if (M.1 10 a1.toNatClampNeg) = (M.1 16 (0 : Int32).toNatClampNeg) then ((if a1 < 0 ∨ mo_ln 8 ≤ a1.toNatClampNeg then none else (if a1 < 0 ∨ mo_ln 10 ≤ a1.toNatClampNeg then none else (if ((cz_i (cz_i M 8 a1.toNatClampNeg (0 : Int32)) 10 a1.toNatClampNeg (0 : Int32)).1 0 24) = 0 then ((if a1 < 0 ∨ mo_ln 9 ≤ a1.toNatClampNeg then none else (if a1 < 0 ∨ mo_ln 6 ≤ a1.toNatClampNeg then none else some ((1 : Int32), cz_i (cz_i (cz_i M 8 a1.toNatClampNeg (0 : Int32)) 10 a1.toNatClampNeg (0 : Int32)) 6 a1.toNatClampNeg (((cz_i (cz_i M 8 a1.toNatClampNeg (0 : Int32)) 10 a1.toNatClampNeg (0 : Int32)).1 9 a1.toNatClampNeg) - (1 : Int32))))))
  else ((if (1 : Int32) < 0 ∨ mo_ln 17 ≤ (1 : Int32).toNatClampNeg then none else (if a1 < 0 ∨ mo_ln 9 ≤ a1.toNatClampNeg then none else (if ((cz_i (cz_i M 8 a1.toNatClampNeg (0 : Int32)) 10 a1.toNatClampNeg (0 : Int32)).1 17 (1 : Int32).toNatClampNeg) = ((cz_i (cz_i M 8 a1.toNatClampNeg (0 : Int32)) 10 a1.toNatClampNeg (0 : Int32)).1 9 a1.toNatClampNeg) then ((cz_bi (f_MO_hash (cz_i (cz_i M 8 a1.toNatClampNeg (0 : Int32)) 10 a1.toNatClampNeg (0 : Int32)) (0 : Int32) (0 : Int32)) (fun r94 M94 => (cz_bi (f_MO_blockOf M94 r94) (fun r100 M100 => (if 0 ≤ r100 then (b_MO_headers_131 a1 M100)
  else ((if (0 : Int32) < 0 ∨ mo_ln 17 ≤ (0 : Int32).toNatClampNeg then none else (cz_bi (f_MO_blockOf M100 (M100.1 17 (0 : Int32).toNatClampNeg)) (fun r113 M113 => (if 0 ≤ r113 then (b_MO_headers_131 a1 M113)
  else ((if a1 < 0 ∨ mo_ln 7 ≤ a1.toNatClampNeg then none else (if a1 < 0 ∨ mo_ln 7 ≤ a1.toNatClampNeg then none else some ((1 : Int32), cz_i M113 7 a1.toNatClampNeg ((M113.1 7 a1.toNatClampNeg) + (1 : Int32)))))))))))))))))
  else ((cz_bi (f_MO_fault (cz_i (cz_i M 8 a1.toNatClampNeg (0 : Int32)) 10 a1.toNatClampNeg (0 : Int32)) a1 (2 : Int32)) (fun r87 M87 => (if r87 = 0 ∨ r87 = 1 then some (r87, M87) else none))))))))))))
  else (b_MO_headers_25 a1 M)))))
  else (b_MO_headers_25 a1 M)))
def b_MO_body_25 (a1 : Int32) (M : cz_M) : Option (Int32 × cz_M) :=
  (cz_bi (f_MO_fault M a1 (1 : Int32)) (fun r28 M28 => (if r28 = 0 ∨ r28 = 1 then some (r28, M28) else none)))
def b_MO_body_156 (a1 : Int32) (M : cz_M) : Option (Int32 × cz_M) :=
  (cz_bi (f_MO_merit M a1) (fun r158 M158 => (if r158 = 0 ∨ r158 = 1 then some (r158, M158) else none)))
def l_MO_body_122 (a1 : Int32) (rec122 : cz_M → Int32 → Int32 → Option (Int32 × cz_M)) (M : cz_M) (v2 : Int32) (v4 : Int32) : Option (Int32 × cz_M) :=
  (if (M.1 0 24) ≤ v4 then (b_MO_body_156 a1 M)
  else ((if v4 < 0 ∨ mo_ln 17 ≤ v4.toNatClampNeg then none else (if (((8 : Int32) * v2) + v4) < 0 ∨ mo_ln 2 ≤ (((8 : Int32) * v2) + v4).toNatClampNeg then none else rec122 (cz_i M 2 (((8 : Int32) * v2) + v4).toNatClampNeg (M.1 17 v4.toNatClampNeg)) v2 (v4 + 1)))))
def b_MO_body_88 (a1 : Int32) (M : cz_M) (v2 : Int32) (v3 : Int32) : Option (Int32 × cz_M) :=
  (if (((5 : Int32) * v2) + (4 : Int32)) < 0 ∨ mo_ln 1 ≤ (((5 : Int32) * v2) + (4 : Int32)).toNatClampNeg then none else (if v3 = (M.1 1 (((5 : Int32) * v2) + (4 : Int32)).toNatClampNeg) then ((if v2 < 0 ∨ mo_ln 3 ≤ v2.toNatClampNeg then none else cz_lp3 (l_MO_body_122 a1) 100 (cz_i M 3 v2.toNatClampNeg (M.1 0 24)) v2 (0 : Int32)))
  else ((cz_bi (f_MO_fault M a1 (2 : Int32)) (fun r105 M105 => (if r105 = 0 ∨ r105 = 1 then some (r105, M105) else none))))))
def l_MO_body_61 (a1 : Int32) (rec61 : cz_M → Int32 → Int32 → Int32 → Option (Int32 × cz_M)) (M : cz_M) (v2 : Int32) (v3 : Int32) (v4 : Int32) : Option (Int32 × cz_M) :=
  (if (M.1 0 24) ≤ v4 then (b_MO_body_88 a1 M v2 v3)
  else ((if v4 < 0 ∨ mo_ln 17 ≤ v4.toNatClampNeg then none else (cz_bi (f_MO_mix M v3 (M.1 17 v4.toNatClampNeg)) (fun r78 M78 => rec61 M78 v2 r78 (v4 + 1))))))
def f_MO_body (M : cz_M) (a1 : Int32) : Option (Int32 × cz_M) :=
  (if a1 < 0 ∨ mo_ln 8 ≤ a1.toNatClampNeg then none else (if (M.1 8 a1.toNatClampNeg) = (2 : Int32) then ((if a1 < 0 ∨ mo_ln 10 ≤ a1.toNatClampNeg then none else (if (0 : Int32) < 0 ∨ mo_ln 16 ≤ (0 : Int32).toNatClampNeg then none else (if (M.1 10 a1.toNatClampNeg) = (M.1 16 (0 : Int32).toNatClampNeg) then ((if a1 < 0 ∨ mo_ln 8 ≤ a1.toNatClampNeg then none else (if a1 < 0 ∨ mo_ln 10 ≤ a1.toNatClampNeg then none else (if a1 < 0 ∨ mo_ln 9 ≤ a1.toNatClampNeg then none else cz_lp4 (l_MO_body_61 a1) 100 (cz_i (cz_i M 8 a1.toNatClampNeg (0 : Int32)) 10 a1.toNatClampNeg (0 : Int32)) ((cz_i (cz_i M 8 a1.toNatClampNeg (0 : Int32)) 10 a1.toNatClampNeg (0 : Int32)).1 9 a1.toNatClampNeg) ((cz_i (cz_i M 8 a1.toNatClampNeg (0 : Int32)) 10 a1.toNatClampNeg (0 : Int32)).1 0 24) (0 : Int32)))))
  else (b_MO_body_25 a1 M)))))
  else (b_MO_body_25 a1 M)))
def b_MO_hear_245 (a1 : Int32) (a2 : Int32) (M : cz_M) (v3 : Int32) : Option (Int32 × cz_M) :=
  (cz_bv (f_MO_wrap M v3) (fun M247 => (cz_bv (f_MO_post M247 a1) (fun M252 => some ((1 : Int32), M252)))))
def l_MO_hear_210 (a1 : Int32) (a2 : Int32) (rec210 : cz_M → Int32 → Int32 → Int32 → Option (Int32 × cz_M)) (M : cz_M) (v3 : Int32) (v4 : Int32) (v5 : Int32) : Option (Int32 × cz_M) :=
  (if v4 < 0 ∨ mo_ln 3 ≤ v4.toNatClampNeg then none else (if (M.1 3 v4.toNatClampNeg) ≤ v5 then (b_MO_hear_245 a1 a2 M v3)
  else ((if (((8 : Int32) * v4) + v5) < 0 ∨ mo_ln 2 ≤ (((8 : Int32) * v4) + v5).toNatClampNeg then none else (cz_bv (f_MO_write M (M.1 2 (((8 : Int32) * v4) + v5).toNatClampNeg)) (fun M236 => rec210 M236 v3 v4 (v5 + 1)))))))
def b_MO_hear_168 (a1 : Int32) (a2 : Int32) (M : cz_M) (v3 : Int32) : Option (Int32 × cz_M) :=
  (cz_bv (f_MO_wrap M v3) (fun M170 => (cz_bv (f_MO_post M170 a1) (fun M175 => some ((1 : Int32), M175)))))
def b_MO_hear_162 (a1 : Int32) (a2 : Int32) (rec66 : cz_M → Int32 → Int32 → Option (Int32 × cz_M)) (M : cz_M) (v3 : Int32) (v4 : Int32) : Option (Int32 × cz_M) :=
  rec66 M v3 (v4 + 1)
def b_MO_hear_151 (a1 : Int32) (a2 : Int32) (rec66 : cz_M → Int32 → Int32 → Option (Int32 × cz_M)) (M : cz_M) (v3 : Int32) (v4 : Int32) (v5 : Int32) (v6 : Int32) : Option (Int32 × cz_M) :=
  (if v5 < 0 then (b_MO_hear_162 a1 a2 rec66 M v3 v4)
  else ((cz_bv (f_MO_wrap M v6) (fun M159 => b_MO_hear_162 a1 a2 rec66 M159 v3 v4))))
def l_MO_hear_118 (a1 : Int32) (a2 : Int32) (rec66 : cz_M → Int32 → Int32 → Option (Int32 × cz_M)) (rec118 : cz_M → Int32 → Int32 → Int32 → Int32 → Int32 → Option (Int32 × cz_M)) (M : cz_M) (v3 : Int32) (v4 : Int32) (v5 : Int32) (v6 : Int32) (v7 : Int32) : Option (Int32 × cz_M) :=
  (if (5 : Int32) ≤ v7 then (b_MO_hear_151 a1 a2 rec66 M v3 v4 v5 v6)
  else ((if v5 < 0 then (b_MO_hear_151 a1 a2 rec66 M v3 v4 v5 v6)
  else ((if (((5 : Int32) * v5) + v7) < 0 ∨ mo_ln 1 ≤ (((5 : Int32) * v5) + v7).toNatClampNeg then none else (cz_bv (f_MO_write M (M.1 1 (((5 : Int32) * v5) + v7).toNatClampNeg)) (fun M142 => rec118 M142 v3 v4 v5 v6 (v7 + 1))))))))
def l_MO_hear_66 (a1 : Int32) (a2 : Int32) (rec66 : cz_M → Int32 → Int32 → Option (Int32 × cz_M)) (M : cz_M) (v3 : Int32) (v4 : Int32) : Option (Int32 × cz_M) :=
  (if (2 : Int32) ≤ v4 then (b_MO_hear_168 a1 a2 M v3)
  else ((if (2 : Int32) < 0 ∨ mo_ln 16 ≤ (2 : Int32).toNatClampNeg then none else (if (M.1 16 (2 : Int32).toNatClampNeg) ≤ v4 then (b_MO_hear_168 a1 a2 M v3)
  else ((if (1 : Int32) < 0 ∨ mo_ln 16 ≤ (1 : Int32).toNatClampNeg then none else (if (20 : Int32) ≤ (M.1 16 (1 : Int32).toNatClampNeg) then (b_MO_hear_168 a1 a2 M v3)
  else ((if (1 : Int32) < 0 ∨ mo_ln 16 ≤ (1 : Int32).toNatClampNeg then none else (cz_bi (f_MO_ofHead M ((M.1 16 (1 : Int32).toNatClampNeg) + v4)) (fun r104 M104 => cz_lp6 (l_MO_hear_118 a1 a2 rec66) 100 M104 v3 v4 r104 (M104.1 0 26) (0 : Int32))))))))))))
def b_MO_hear_44 (a1 : Int32) (a2 : Int32) (M : cz_M) (s0 : Int32) : Option (Int32 × cz_M) :=
  (if (0 : Int32) < 0 ∨ mo_ln 16 ≤ (0 : Int32).toNatClampNeg then none else (cz_bv (f_MO_start M s0 (M.1 16 (0 : Int32).toNatClampNeg)) (fun M50 => (if a2 = (1 : Int32) then (cz_lp3 (l_MO_hear_66 a1 a2) 100 M50 (M50.1 0 26) (0 : Int32))
  else ((if (1 : Int32) < 0 ∨ mo_ln 16 ≤ (1 : Int32).toNatClampNeg then none else (cz_bi (f_MO_blockOf M50 (M50.1 16 (1 : Int32).toNatClampNeg)) (fun r187 M187 => (if r187 < 0 then (some ((1 : Int32), M187))
  else ((if r187 < 0 ∨ mo_ln 3 ≤ r187.toNatClampNeg then none else (if (M187.1 3 r187.toNatClampNeg) < 0 then (some ((1 : Int32), M187))
  else (cz_lp4 (l_MO_hear_210 a1 a2) 100 M187 (M50.1 0 26) r187 (0 : Int32))))))))))))))
def f_MO_hear (M : cz_M) (a1 : Int32) (a2 : Int32) : Option (Int32 × cz_M) :=
  (if a2 = 0 then ((cz_bi (f_MO_fault M a1 (2 : Int32)) (fun r7 M7 => (if r7 = 0 ∨ r7 = 1 then some (r7, M7) else none))))
  else ((if a2 = (2 : Int32) then ((cz_bi (f_MO_headers M a1) (fun r18 M18 => (if r18 = 0 ∨ r18 = 1 then some (r18, M18) else none))))
  else ((if a2 = (4 : Int32) then ((cz_bi (f_MO_body M a1) (fun r29 M29 => (if r29 = 0 ∨ r29 = 1 then some (r29, M29) else none))))
  else ((if a2 = (1 : Int32) then (b_MO_hear_44 a1 a2 M (2 : Int32))
  else (b_MO_hear_44 a1 a2 M (4 : Int32)))))))))
def b_MO_receive_91 (a1 : Int32) (M : cz_M) (v2 : Int32) (v3 : Int32) : Option (Int32 × cz_M) :=
  (if v3 = 0 then (some ((-3 : Int32), M))
  else (some (v2, M)))
def b_MO_receive_90 (a1 : Int32) (M : cz_M) (v2 : Int32) (s0 : Int32) : Option (Int32 × cz_M) :=
  b_MO_receive_91 a1 M v2 s0
def f_MO_receive (M : cz_M) (a1 : Int32) : Option (Int32 × cz_M) :=
  (cz_bi (f_MO_isPeer M a1) (fun r1 M1 => (if r1 = 0 then (some ((-1 : Int32), M1))
  else ((if a1 < 0 ∨ mo_ln 4 ≤ a1.toNatClampNeg then none else (if (M1.1 4 a1.toNatClampNeg) = 0 then (some ((-1 : Int32), M1))
  else ((if a1 < 0 ∨ mo_ln 4 ≤ a1.toNatClampNeg then none else (if (M1.1 4 a1.toNatClampNeg) = (3 : Int32) then (some ((-1 : Int32), M1))
  else ((cz_bi (f_MO_decode M1) (fun r31 M31 => (if 0 ≤ r31 then ((if r31 = (5 : Int32) then ((cz_bv (f_MO_leave M31 a1 (0 : Int32)) (fun M57 => b_MO_receive_91 a1 M57 r31 (1 : Int32))))
  else ((if a1 < 0 ∨ mo_ln 4 ≤ a1.toNatClampNeg then none else (if (M31.1 4 a1.toNatClampNeg) = (1 : Int32) then ((cz_bi (f_MO_greet M31 a1 r31) (fun r78 M78 => b_MO_receive_90 a1 M78 r31 r78)))
  else ((cz_bi (f_MO_hear M31 a1 r31) (fun r87 M87 => b_MO_receive_90 a1 M87 r31 r87))))))))
  else ((cz_bi (f_MO_fault M31 a1 (4 : Int32)) (fun r42 M42 => some ((-2 : Int32), M42)))))))))))))))))
def b_MO_wanted_38 (a1 : Int32) (rec4 : cz_M → Int32 → Int32 → Option (Int32 × cz_M)) (M : cz_M) (v3 : Int32) (s0 : Int32) : Option (Int32 × cz_M) :=
  rec4 M s0 (v3 + 1)
def b_MO_wanted_33 (a1 : Int32) (rec4 : cz_M → Int32 → Int32 → Option (Int32 × cz_M)) (M : cz_M) (v3 : Int32) : Option (Int32 × cz_M) :=
  b_MO_wanted_38 a1 rec4 M v3 (1 : Int32)
def b_MO_wanted_37 (a1 : Int32) (rec4 : cz_M → Int32 → Int32 → Option (Int32 × cz_M)) (M : cz_M) (v3 : Int32) : Option (Int32 × cz_M) :=
  b_MO_wanted_38 a1 rec4 M v3 (0 : Int32)
def l_MO_wanted_4 (a1 : Int32) (rec4 : cz_M → Int32 → Int32 → Option (Int32 × cz_M)) (M : cz_M) (v2 : Int32) (v3 : Int32) : Option (Int32 × cz_M) :=
  (if (4 : Int32) ≤ v3 then ((if v2 = 0 ∨ v2 = 1 then some (v2, M) else none))
  else ((if v2 = 0 then ((if v3 < 0 ∨ mo_ln 8 ≤ v3.toNatClampNeg then none else (if (M.1 8 v3.toNatClampNeg) = (2 : Int32) then ((if v3 < 0 ∨ mo_ln 9 ≤ v3.toNatClampNeg then none else (if (M.1 9 v3.toNatClampNeg) = a1 then (b_MO_wanted_33 a1 rec4 M v3)
  else (b_MO_wanted_37 a1 rec4 M v3))))
  else (b_MO_wanted_37 a1 rec4 M v3))))
  else (b_MO_wanted_33 a1 rec4 M v3))))
def f_MO_wanted (M : cz_M) (a1 : Int32) : Option (Int32 × cz_M) :=
  cz_lp3 (l_MO_wanted_4 a1) 100 M (0 : Int32) (0 : Int32)
def b_MO_lacking_42 (rec10 : cz_M → Int32 → Int32 → Int32 → Option (Int32 × cz_M)) (M : cz_M) (v2 : Int32) (v3 : Int32) (s0 : Int32) : Option (Int32 × cz_M) :=
  (cz_bi (f_MO_parent M v2) (fun r45 M45 => rec10 M45 s0 r45 (v3 + 1)))
def b_MO_lacking_41 (rec10 : cz_M → Int32 → Int32 → Int32 → Option (Int32 × cz_M)) (M : cz_M) (v1 : Int32) (v2 : Int32) (v3 : Int32) : Option (Int32 × cz_M) :=
  b_MO_lacking_42 rec10 M v2 v3 v1
def l_MO_lacking_10 (rec10 : cz_M → Int32 → Int32 → Int32 → Option (Int32 × cz_M)) (M : cz_M) (v1 : Int32) (v2 : Int32) (v3 : Int32) : Option (Int32 × cz_M) :=
  (if (20 : Int32) ≤ v3 then (some (v1, M))
  else ((if v2 < 0 then (some (v1, M))
  else ((if v2 < 0 ∨ mo_ln 3 ≤ v2.toNatClampNeg then none else (if 0 ≤ (M.1 3 v2.toNatClampNeg) then (b_MO_lacking_41 rec10 M v1 v2 v3)
  else ((cz_bi (f_MO_wanted M v2) (fun r31 M31 => (if r31 = 0 then (b_MO_lacking_42 rec10 M31 v2 v3 v2)
  else (b_MO_lacking_41 rec10 M31 v1 v2 v3)))))))))))
def f_MO_lacking (M : cz_M) : Option (Int32 × cz_M) :=
  (cz_bi (f_MO_greatest M (0 : Int32)) (fun r4 M4 => cz_lp4 (l_MO_lacking_10) 100 M4 (-1 : Int32) r4 (0 : Int32)))
def b_MO_request_101 (a1 : Int32) (a2 : Int32) (a3 : Int32) (M : cz_M) : Option cz_M :=
  (cz_bv (f_MO_post M a1) (fun M103 => some M103))
def b_MO_request_60 (a1 : Int32) (a2 : Int32) (a3 : Int32) (M : cz_M) (s0 : Int32) : Option cz_M :=
  (cz_bv (f_MO_start M s0 (M.1 0 3)) (fun M64 => (if a2 = (1 : Int32) then ((cz_bv (f_MO_write M64 a3) (fun M74 => (cz_bv (f_MO_write M74 (2 : Int32)) (fun M79 => b_MO_request_101 a1 a2 a3 M79)))))
  else ((cz_bi (f_MO_hash M64 (1 : Int32) ((5 : Int32) * a3)) (fun r90 M90 => (cz_bv (f_MO_write M90 r90) (fun M98 => b_MO_request_101 a1 a2 a3 M98))))))))
def f_MO_request (M : cz_M) (a1 : Int32) (a2 : Int32) (a3 : Int32) : Option cz_M :=
  (if a1 < 0 ∨ mo_ln 8 ≤ a1.toNatClampNeg then none else (if a1 < 0 ∨ mo_ln 9 ≤ a1.toNatClampNeg then none else (if a1 < 0 ∨ mo_ln 10 ≤ a1.toNatClampNeg then none else (if a1 < 0 ∨ mo_ln 11 ≤ a1.toNatClampNeg then none else (if a2 = (1 : Int32) then (b_MO_request_60 a1 a2 a3 (cz_i (cz_i (cz_i (cz_i (cz_i M 0 3 ((M.1 0 3) + (1 : Int32))) 8 a1.toNatClampNeg a2) 9 a1.toNatClampNeg a3) 10 a1.toNatClampNeg ((cz_i (cz_i (cz_i M 0 3 ((M.1 0 3) + (1 : Int32))) 8 a1.toNatClampNeg a2) 9 a1.toNatClampNeg a3).1 0 3)) 11 a1.toNatClampNeg (((cz_i (cz_i (cz_i (cz_i M 0 3 ((M.1 0 3) + (1 : Int32))) 8 a1.toNatClampNeg a2) 9 a1.toNatClampNeg a3) 10 a1.toNatClampNeg ((cz_i (cz_i (cz_i M 0 3 ((M.1 0 3) + (1 : Int32))) 8 a1.toNatClampNeg a2) 9 a1.toNatClampNeg a3).1 0 3)).1 0 2) + ((cz_i (cz_i (cz_i (cz_i M 0 3 ((M.1 0 3) + (1 : Int32))) 8 a1.toNatClampNeg a2) 9 a1.toNatClampNeg a3) 10 a1.toNatClampNeg ((cz_i (cz_i (cz_i M 0 3 ((M.1 0 3) + (1 : Int32))) 8 a1.toNatClampNeg a2) 9 a1.toNatClampNeg a3).1 0 3)).1 0 1))) (1 : Int32))
  else (b_MO_request_60 a1 a2 a3 (cz_i (cz_i (cz_i (cz_i (cz_i M 0 3 ((M.1 0 3) + (1 : Int32))) 8 a1.toNatClampNeg a2) 9 a1.toNatClampNeg a3) 10 a1.toNatClampNeg ((cz_i (cz_i (cz_i M 0 3 ((M.1 0 3) + (1 : Int32))) 8 a1.toNatClampNeg a2) 9 a1.toNatClampNeg a3).1 0 3)) 11 a1.toNatClampNeg (((cz_i (cz_i (cz_i (cz_i M 0 3 ((M.1 0 3) + (1 : Int32))) 8 a1.toNatClampNeg a2) 9 a1.toNatClampNeg a3) 10 a1.toNatClampNeg ((cz_i (cz_i (cz_i M 0 3 ((M.1 0 3) + (1 : Int32))) 8 a1.toNatClampNeg a2) 9 a1.toNatClampNeg a3).1 0 3)).1 0 2) + ((cz_i (cz_i (cz_i (cz_i M 0 3 ((M.1 0 3) + (1 : Int32))) 8 a1.toNatClampNeg a2) 9 a1.toNatClampNeg a3) 10 a1.toNatClampNeg ((cz_i (cz_i (cz_i M 0 3 ((M.1 0 3) + (1 : Int32))) 8 a1.toNatClampNeg a2) 9 a1.toNatClampNeg a3).1 0 3)).1 0 1))) (3 : Int32)))))))
def b_MO_work_124 (rec4 : cz_M → Int32 → Int32 → Option (Int32 × cz_M)) (M : cz_M) (v1 : Int32) (v2 : Int32) : Option (Int32 × cz_M) :=
  rec4 M v1 (v2 + 1)
def b_MO_work_74 (rec4 : cz_M → Int32 → Int32 → Option (Int32 × cz_M)) (M : cz_M) (v1 : Int32) (v2 : Int32) (v3 : Int32) (s0 : Int32) : Option (Int32 × cz_M) :=
  (if v3 < 0 then ((if (20 : Int32) ≤ (M.1 0 4) then (b_MO_work_124 rec4 M v1 v2)
  else ((if v2 < 0 ∨ mo_ln 6 ≤ v2.toNatClampNeg then none else (if (M.1 6 v2.toNatClampNeg) < s0 then (b_MO_work_124 rec4 M v1 v2)
  else ((cz_bv (f_MO_request M v2 (1 : Int32) s0) (fun M118 => b_MO_work_124 rec4 M118 (v1 + 1) v2))))))))
  else ((cz_bv (f_MO_request M v2 (2 : Int32) v3) (fun M84 => b_MO_work_124 rec4 M84 (v1 + 1) v2))))
def l_MO_work_4 (rec4 : cz_M → Int32 → Int32 → Option (Int32 × cz_M)) (M : cz_M) (v1 : Int32) (v2 : Int32) : Option (Int32 × cz_M) :=
  (if (4 : Int32) ≤ v2 then (some (v1, M))
  else ((if v2 < 0 ∨ mo_ln 4 ≤ v2.toNatClampNeg then none else (if (M.1 4 v2.toNatClampNeg) = (2 : Int32) then ((if v2 < 0 ∨ mo_ln 8 ≤ v2.toNatClampNeg then none else (if (M.1 8 v2.toNatClampNeg) = 0 then ((cz_bi (f_MO_lacking M) (fun r29 M29 => (cz_bi (f_MO_greatest M29 (0 : Int32)) (fun r35 M35 => (if (((5 : Int32) * r35) + (1 : Int32)) < 0 ∨ mo_ln 1 ≤ (((5 : Int32) * r35) + (1 : Int32)).toNatClampNeg then none else (if v2 < 0 ∨ mo_ln 7 ≤ v2.toNatClampNeg then none else (if (1 : Int32) ≤ (((M35.1 1 (((5 : Int32) * r35) + (1 : Int32)).toNatClampNeg) + (1 : Int32)) - (M35.1 7 v2.toNatClampNeg)) then (b_MO_work_74 rec4 M35 v1 v2 r29 (((M35.1 1 (((5 : Int32) * r35) + (1 : Int32)).toNatClampNeg) + (1 : Int32)) - (M35.1 7 v2.toNatClampNeg)))
  else (b_MO_work_74 rec4 M35 v1 v2 r29 (1 : Int32))))))))))
  else (b_MO_work_124 rec4 M v1 v2))))
  else (b_MO_work_124 rec4 M v1 v2)))))
def f_MO_work (M : cz_M) : Option (Int32 × cz_M) :=
  cz_lp3 (l_MO_work_4) 100 M (0 : Int32) (0 : Int32)
def b_MO_tick_98 (a1 : Int32) (rec16 : cz_M → Int32 → Int32 → Option (Int32 × cz_M)) (M : cz_M) (v2 : Int32) (v3 : Int32) : Option (Int32 × cz_M) :=
  rec16 M v2 (v3 + 1)
def b_MO_tick_92 (a1 : Int32) (rec16 : cz_M → Int32 → Int32 → Option (Int32 × cz_M)) (rec34 : cz_M → Int32 → Int32 → Int32 → Option (Int32 × cz_M)) (M : cz_M) (v2 : Int32) (v3 : Int32) (v4 : Int32) : Option (Int32 × cz_M) :=
  rec34 M v2 v3 (v4 + 1)
def l_MO_tick_34 (a1 : Int32) (rec16 : cz_M → Int32 → Int32 → Option (Int32 × cz_M)) (rec34 : cz_M → Int32 → Int32 → Int32 → Option (Int32 × cz_M)) (M : cz_M) (v2 : Int32) (v3 : Int32) (v4 : Int32) : Option (Int32 × cz_M) :=
  (if (4 : Int32) ≤ v4 then (b_MO_tick_98 a1 rec16 M v2 v3)
  else ((if v4 < 0 ∨ mo_ln 8 ≤ v4.toNatClampNeg then none else (if (M.1 8 v4.toNatClampNeg) ≤ 0 then (b_MO_tick_92 a1 rec16 rec34 M v2 v3 v4)
  else ((if v4 < 0 ∨ mo_ln 11 ≤ v4.toNatClampNeg then none else (if (M.1 0 2) ≤ (M.1 11 v4.toNatClampNeg) then (b_MO_tick_92 a1 rec16 rec34 M v2 v3 v4)
  else ((if v4 < 0 ∨ mo_ln 8 ≤ v4.toNatClampNeg then none else (if v4 < 0 ∨ mo_ln 10 ≤ v4.toNatClampNeg then none else (cz_bi (f_MO_fault (cz_i (cz_i M 8 v4.toNatClampNeg (0 : Int32)) 10 v4.toNatClampNeg (0 : Int32)) v4 (1 : Int32)) (fun r84 M84 => b_MO_tick_92 a1 rec16 rec34 M84 (v2 + 1) v3 v4))))))))))))
def l_MO_tick_16 (a1 : Int32) (rec16 : cz_M → Int32 → Int32 → Option (Int32 × cz_M)) (M : cz_M) (v2 : Int32) (v3 : Int32) : Option (Int32 × cz_M) :=
  (if a1 ≤ v3 then (some (v2, M))
  else (cz_lp4 (l_MO_tick_34 a1 rec16) 100 (cz_i M 0 2 ((M.1 0 2) + (1 : Int32))) v2 v3 (0 : Int32)))
def f_MO_tick (M : cz_M) (a1 : Int32) : Option (Int32 × cz_M) :=
  (if a1 < 0 then (some ((-1 : Int32), M))
  else ((if a1 ≤ (50 : Int32) then (cz_lp3 (l_MO_tick_16 a1) 100 M (0 : Int32) (0 : Int32))
  else (some ((-1 : Int32), M)))))
def b_MO_seal_138 (a1 : Int32) (a2 : Int32) (a3 : Int32) (M : cz_M) (s0 : Int32) (s1 : Int32) : Option (Int32 × cz_M) :=
  (if s1 < 0 ∨ mo_ln 3 ≤ s1.toNatClampNeg then none else (if (((8 : Int32) * ((cz_i M 3 s1.toNatClampNeg s0).1 0 4)) - (8 : Int32)) < 0 ∨ mo_ln 2 ≤ (((8 : Int32) * ((cz_i M 3 s1.toNatClampNeg s0).1 0 4)) - (8 : Int32)).toNatClampNeg then none else some (((cz_i (cz_i M 3 s1.toNatClampNeg s0) 2 (((8 : Int32) * ((cz_i M 3 s1.toNatClampNeg s0).1 0 4)) - (8 : Int32)).toNatClampNeg a3).1 0 4) - (1 : Int32), cz_i (cz_i M 3 s1.toNatClampNeg s0) 2 (((8 : Int32) * ((cz_i M 3 s1.toNatClampNeg s0).1 0 4)) - (8 : Int32)).toNatClampNeg a3)))
def b_MO_seal_73 (a1 : Int32) (a2 : Int32) (a3 : Int32) (M : cz_M) (s0 : Int32) (s1 : Int32) : Option (Int32 × cz_M) :=
  (if s1 < 0 ∨ mo_ln 17 ≤ s1.toNatClampNeg then none else (cz_bi (f_MO_hash (cz_i M 17 s1.toNatClampNeg s0) (0 : Int32) (0 : Int32)) (fun r77 M77 => (if a1 < 0 then (some ((-1 : Int32), M77))
  else ((cz_bi (f_MO_good M77 (0 : Int32)) (fun r88 M88 => (if r88 = 0 then (some ((-1 : Int32), M88))
  else ((cz_bi (f_MO_blockOf M88 r77) (fun r97 M97 => (if 0 ≤ r97 then (some ((-1 : Int32), M97))
  else ((if (M97.1 0 4) = (20 : Int32) then (some ((-1 : Int32), M97))
  else ((cz_bv (f_MO_add M97 (0 : Int32)) (fun M116 => (if 0 ≤ a3 then (b_MO_seal_138 a1 a2 a3 M116 (1 : Int32) ((M116.1 0 4) - (1 : Int32)))
  else (b_MO_seal_138 a1 a2 a3 M116 (0 : Int32) ((M116.1 0 4) - (1 : Int32)))))))))))))))))))))
def f_MO_seal (M : cz_M) (a1 : Int32) (a2 : Int32) (a3 : Int32) : Option (Int32 × cz_M) :=
  (cz_bi (f_MO_greatest M (1 : Int32)) (fun r2 M2 => (cz_bi (f_MO_hash M2 (1 : Int32) ((5 : Int32) * r2)) (fun r18 M18 => (if (0 : Int32) < 0 ∨ mo_ln 17 ≤ (0 : Int32).toNatClampNeg then none else (if (((5 : Int32) * r2) + (1 : Int32)) < 0 ∨ mo_ln 1 ≤ (((5 : Int32) * r2) + (1 : Int32)).toNatClampNeg then none else (if (1 : Int32) < 0 ∨ mo_ln 17 ≤ (1 : Int32).toNatClampNeg then none else (if (2 : Int32) < 0 ∨ mo_ln 17 ≤ (2 : Int32).toNatClampNeg then none else (if (3 : Int32) < 0 ∨ mo_ln 17 ≤ (3 : Int32).toNatClampNeg then none else (if 0 ≤ a3 then ((cz_bi (f_MO_mix (cz_i (cz_i (cz_i (cz_i M18 17 (0 : Int32).toNatClampNeg r18) 17 (1 : Int32).toNatClampNeg (((cz_i M18 17 (0 : Int32).toNatClampNeg r18).1 1 (((5 : Int32) * r2) + (1 : Int32)).toNatClampNeg) + (1 : Int32))) 17 (2 : Int32).toNatClampNeg a1) 17 (3 : Int32).toNatClampNeg a2) (1 : Int32) a3) (fun r70 M70 => b_MO_seal_73 a1 a2 a3 M70 r70 (4 : Int32))))
  else (b_MO_seal_73 a1 a2 a3 (cz_i (cz_i (cz_i (cz_i M18 17 (0 : Int32).toNatClampNeg r18) 17 (1 : Int32).toNatClampNeg (((cz_i M18 17 (0 : Int32).toNatClampNeg r18).1 1 (((5 : Int32) * r2) + (1 : Int32)).toNatClampNeg) + (1 : Int32))) 17 (2 : Int32).toNatClampNeg a1) 17 (3 : Int32).toNatClampNeg a2) (0 : Int32) (4 : Int32))))))))))))
def f_MO_peer (M : cz_M) (a1 : Int32) (a2 : Int32) : Option (Int32 × cz_M) :=
  (cz_bi (f_MO_isPeer M a1) (fun r1 M1 => (if r1 = 0 then (some ((0 : Int32), M1))
  else ((if a2 = (0 : Int32) then ((if a1 < 0 ∨ mo_ln 4 ≤ a1.toNatClampNeg then none else some (M1.1 4 a1.toNatClampNeg, M1)))
  else (if a2 = (1 : Int32) then ((if a1 < 0 ∨ mo_ln 5 ≤ a1.toNatClampNeg then none else some (M1.1 5 a1.toNatClampNeg, M1)))
  else (if a2 = (2 : Int32) then ((if a1 < 0 ∨ mo_ln 6 ≤ a1.toNatClampNeg then none else some (M1.1 6 a1.toNatClampNeg, M1)))
  else (if a2 = (3 : Int32) then ((if a1 < 0 ∨ mo_ln 7 ≤ a1.toNatClampNeg then none else some (M1.1 7 a1.toNatClampNeg, M1)))
  else (if a2 = (4 : Int32) then ((if a1 < 0 ∨ mo_ln 10 ≤ a1.toNatClampNeg then none else some (M1.1 10 a1.toNatClampNeg, M1)))
  else (if a2 = (5 : Int32) then ((if a1 < 0 ∨ mo_ln 12 ≤ a1.toNatClampNeg then none else some (M1.1 12 a1.toNatClampNeg, M1)))
  else (some ((0 : Int32), M1))))))))))))
def f_MO_block (M : cz_M) (a1 : Int32) (a2 : Int32) : Option (Int32 × cz_M) :=
  (if a1 < 0 then (some ((-1 : Int32), M))
  else ((if (M.1 0 4) ≤ a1 then (some ((-1 : Int32), M))
  else ((if a2 < 0 then (some ((-1 : Int32), M))
  else ((if a2 ≤ (8 : Int32) then ((if (5 : Int32) ≤ a2 then ((if a2 = (5 : Int32) then ((cz_bi (f_MO_hash M (1 : Int32) ((5 : Int32) * a1)) (fun r50 M50 => some (r50, M50))))
  else ((if a2 = (6 : Int32) then ((cz_bi (f_MO_total M a1) (fun r62 M62 => some (r62, M62))))
  else ((if a2 = (7 : Int32) then ((if a1 < 0 ∨ mo_ln 3 ≤ a1.toNatClampNeg then none else some (M.1 3 a1.toNatClampNeg, M)))
  else ((cz_bi (f_MO_imported M a1) (fun r85 M85 => (if r85 = 0 then (some ((0 : Int32), M85))
  else (some ((1 : Int32), M85))))))))))))
  else ((if (((5 : Int32) * a1) + a2) < 0 ∨ mo_ln 1 ≤ (((5 : Int32) * a1) + a2).toNatClampNeg then none else some (M.1 1 (((5 : Int32) * a1) + a2).toNatClampNeg, M)))))
  else (some ((-1 : Int32), M)))))))))
def b_MO_tx_26 (a1 : Int32) (a2 : Int32) (M : cz_M) : Option (Int32 × cz_M) :=
  some ((-1 : Int32), M)
def f_MO_tx (M : cz_M) (a1 : Int32) (a2 : Int32) : Option (Int32 × cz_M) :=
  (if a1 < 0 then (b_MO_tx_26 a1 a2 M)
  else ((if (M.1 0 4) ≤ a1 then (b_MO_tx_26 a1 a2 M)
  else ((if a2 < 0 then (b_MO_tx_26 a1 a2 M)
  else ((if a1 < 0 ∨ mo_ln 3 ≤ a1.toNatClampNeg then none else (if a2 < (M.1 3 a1.toNatClampNeg) then ((if (((8 : Int32) * a1) + a2) < 0 ∨ mo_ln 2 ≤ (((8 : Int32) * a1) + a2).toNatClampNeg then none else some (M.1 2 (((8 : Int32) * a1) + a2).toNatClampNeg, M)))
  else (b_MO_tx_26 a1 a2 M)))))))))
def f_MO_state (M : cz_M) (a1 : Int32) : Option (Int32 × cz_M) :=
  (if a1 = 0 then (some (M.1 0 4, M))
  else ((if a1 = (1 : Int32) then ((cz_bi (f_MO_greatest M (0 : Int32)) (fun r18 M18 => some (r18, M18))))
  else ((if a1 = (2 : Int32) then ((cz_bi (f_MO_greatest M (1 : Int32)) (fun r31 M31 => some (r31, M31))))
  else ((if a1 = (3 : Int32) then (some (M.1 0 2, M))
  else ((if a1 = (4 : Int32) then (some (M.1 0 3, M))
  else (some ((-1 : Int32), M)))))))))))
