/-! the methods over the store -/
/-- HexTemplatesLaw.cell([II)I -/
def zf_89 (L : Nat) (xs : Nat → Int32) (x1 : Int) (s : zS) : zR := if (L : Int) ≤ x1 then (zg (x1 + 41) (zg (51797 * (x1 + 41)) (zg ((51797 * (x1 + 41)) + 2957131) (zi ((51797 * (x1 + 41)) + 2957131) s)))) else (zn x1 L (zi (xs (x1).toNat).toInt s))
/-- HexTemplatesLaw.low(II)I -/
def zf_90 (x0 : Int) (x1 : Int) (s : zS) : zR := if x1 = 0 then none else (zi (zrem (zand x0 2147483647) x1) s)
/-- java/lang/Math.min(II)I -/
def zf_24 (x0 : Int) (x1 : Int) (s : zS) : zR := if x1 < x0 then (zi x1 s) else (zi x0 s)
def zf_5_18 : Nat → Nat → Nat → Int → zS → zR
  | 0, _, _, _, _ => none
  | n + 1, x0, x1, x2, s => if (s.1 1 x0 0) ≤ x2 then (zi 0 s) else (zn x2 (zlB x1) (zW 0 x0 (zlB x0) x2 (s.1 0 x1 x2) s fun s2 => zg (x2 + 1) ((zf_5_18 n x0 x1 (x2 + 1) s2))))
/-- HexTemplates$Bytes.copy(LHexTemplates$Bytes;)V -/
def zf_5 (x0 : Nat) (x1 : Nat) (s : zS) : zR := zC (zf_24 (s.1 1 x1 0) ((zlB x0 : Nat) : Int) s) fun v3 s2 => zP 1 x0 0 v3 s2 fun s5 => (zf_5_18 xfu x0 x1 0 s5)
/-- HexTemplates$Editor.begin(LHexTemplates$Bytes;)V -/
def zf_10 (x0 : Nat) (x1 : Nat) (s : zS) : zR := zC (zf_5 2 x1 s) fun _ s2 => zi 0 s2
/-- HexTemplates$Bytes.get(I)I -/
def zf_2 (x0 : Nat) (x1 : Int) (s : zS) : zR := if x1 < 0 then (zi 0 s) else (if (s.1 1 x0 0) ≤ x1 then (zi 0 s) else (zn x1 (zlB x0) (zi (s.1 0 x0 x1) s)))
/-- HexTemplates$Bytes.put(II)V -/
def zf_3 (x0 : Nat) (x1 : Int) (x2 : Int) (s : zS) : zR := if x1 < 0 then (zi 0 s) else (if (s.1 1 x0 0) ≤ x1 then (zi 0 s) else (zW 0 x0 (zlB x0) x1 x2 s fun s2 => zi 0 s2))
/-- HexTemplates$Nodes.has(I)Z -/
def zf_27 (x0 : Nat) (x1 : Int) (s : zS) : zR := if x1 < 0 then (zz 0 s) else (if (s.1 199 x0 0) ≤ x1 then (zz 0 s) else (zz 1 s))
def zf_81_24 (x0 : Nat) (s0 : Int) (s : zS) : zR := if s0 = (-1) then (zi 65 s) else (zO (s.1 321 x0 0) s fun q1 => zn s0 48 (zi (s.1 458 q1 s0) s))
/-- HexTemplates$Reader.typeOf(I)I -/
def zf_81 (x0 : Nat) (x1 : Int) (s : zS) : zR := zC (zf_27 x0 x1 s) fun v3 s2 => if v3 = 0 then ((zf_81_24 x0 (-1) s2)) else (zn x1 200 ((zf_81_24 x0 (s2.1 198 x0 x1) s2)))
def zf_83_24 (x0 : Nat) (s0 : Int) (s : zS) : zR := if s0 = (-1) then (zi (-1) s) else (zO (s.1 321 x0 0) s fun q1 => zn s0 48 (zg ((zshl 1 (s.1 459 q1 s0)) - 1) (zi ((zshl 1 (s.1 459 q1 s0)) - 1) s)))
/-- HexTemplates$Reader.greatest(I)I -/
def zf_83 (x0 : Nat) (x1 : Int) (s : zS) : zR := zC (zf_27 x0 x1 s) fun v3 s2 => if v3 = 0 then ((zf_83_24 x0 (-1) s2)) else (zn x1 200 ((zf_83_24 x0 (s2.1 198 x0 x1) s2)))
/-- HexTemplates$Reader.shiftOf(I)I -/
def zf_84 (x0 : Nat) (x1 : Int) (s : zS) : zR := zC (zf_81 x0 x1 s) fun v3 s2 => if v3 = 110 then (zO (s2.1 321 x0 0) s2 fun q4 => zn x1 200 (zn (s2.1 198 x0 x1) 48 (zi (s2.1 460 q4 (s2.1 198 x0 x1)) s2))) else (zi 0 s2)
/-- HexTemplates$Editor.write(LHexTemplates$Reader;II)V -/
def zf_11 (x0 : Nat) (x1 : Nat) (x2 : Int) (x3 : Int) (s : zS) : zR := zn x2 200 (zC (zf_81 x1 x2 s) fun v3 s2 => if v3 = 87 then (zC (zf_3 2 (s.1 194 x1 x2) (zshr x3 8) s2) fun _ s23 => zg ((s.1 194 x1 x2) + 1) (zC (zf_3 2 ((s.1 194 x1 x2) + 1) (zand x3 255) s23) fun _ s26 => zi 0 s26)) else (if v3 = 110 then (zC (zf_84 x1 x2 s2) fun v13 s12 => zC (zf_2 2 (s.1 194 x1 x2) s12) fun v16 s15 => zC (zf_83 x1 x2 s15) fun v19 s18 => zC (zf_3 2 (s.1 194 x1 x2) (zor (zand v16 (zxor (zshl v19 v13) (-1))) (zshl x3 v13)) s18) fun _ s21 => zi 0 s21) else (if v3 = 119 then (zC (zf_3 2 (s.1 194 x1 x2) (zand x3 255) s2) fun _ s7 => zg ((s.1 194 x1 x2) + 1) (zC (zf_3 2 ((s.1 194 x1 x2) + 1) (zshr x3 8) s7) fun _ s10 => zi 0 s10)) else (zC (zf_3 2 (s.1 194 x1 x2) x3 s2) fun _ s5 => zi 0 s5))))
/-- HexTemplates$Nodes.tell(IIII)V -/
def zf_29 (x0 : Nat) (x1 : Int) (x2 : Int) (x3 : Int) (x4 : Int) (s : zS) : zR := zC (zf_27 x0 x1 s) fun v3 s2 => if v3 = 0 then (zi 0 s2) else (zW 193 x0 200 x1 x2 s2 fun s5 => zW 195 x0 200 x1 x3 s5 fun s7 => zW 196 x0 200 x1 x4 s7 fun s9 => zi 0 s9)
/-- HexTemplates$Reader.fail(II)Z -/
def zf_57 (x0 : Nat) (x1 : Int) (x2 : Int) (s : zS) : zR := zP 325 x0 0 x1 s fun s2 => zP 326 x0 0 x2 s2 fun s4 => zz 0 s4
/-- HexTemplates$Nodes.add(IIII)I -/
def zf_28 (x0 : Nat) (x1 : Int) (x2 : Int) (x3 : Int) (x4 : Int) (s : zS) : zR := if (s.1 199 x0 0) < 200 then (zW 192 x0 200 (s.1 199 x0 0) x1 s fun s2 => zW 198 x0 200 (s2.1 199 x0 0) x2 s2 fun s4 => zW 194 x0 200 (s4.1 199 x0 0) x3 s4 fun s6 => zW 197 x0 200 (s6.1 199 x0 0) x4 s6 fun s8 => zg ((s8.1 199 x0 0) + 1) (zP 199 x0 0 ((s8.1 199 x0 0) + 1) s8 fun s10 => zg ((s10.1 199 x0 0) - 1) (zi ((s10.1 199 x0 0) - 1) s10))) else (zi (-1) s)
/-- HexTemplates$Reader.make(III)I -/
def zf_58 (x0 : Nat) (x1 : Int) (x2 : Int) (x3 : Int) (s : zS) : zR := if (s.1 324 x0 0) < 200 then (zg ((s.1 324 x0 0) + 1) (zP 324 x0 0 ((s.1 324 x0 0) + 1) s fun s2 => zC (zf_28 x0 x1 x2 (s2.1 323 x0 0) x3 s2) fun v6 s5 => zi v6 s5)) else (zP 325 x0 0 5 s fun s8 => zP 326 x0 0 (s8.1 323 x0 0) s8 fun s10 => zi (-1) s10)
def zf_62_145 (x0 : Nat) (x2 : Int) (x3 : Int) (x4 : Int) (s : zS) : zR := zW 329 x0 48 x2 x3 s fun s2 => zW 330 x0 48 x2 x4 s2 fun s4 => zz 1 s4
def zf_62_107 (x0 : Nat) (x1 : Int) (x2 : Int) (x3 : Int) (x4 : Int) (s : zS) : zR := zO (s.1 321 x0 0) s fun q1 => zn x1 48 (if (s.1 467 q1 x1) = 61 then (zO (s.1 321 x0 0) s fun q5 => zn x1 48 (if x4 = (s.1 468 q5 x1) then ((zf_62_145 x0 x2 x3 x4 s)) else (zC (zf_57 x0 2 (s.1 323 x0 0) s) fun v11 s10 => zz v11 s10))) else ((zf_62_145 x0 x2 x3 x4 s)))
/-- HexTemplates$Reader.measureNumber(II)Z -/
def zf_62 (x0 : Nat) (x1 : Int) (x2 : Int) (s : zS) : zR := zO (s.1 321 x0 0) s fun q1 => zn x1 48 (zB (s.1 322 x0 0) fun b5 => zg ((s.1 323 x0 0) + (zdiv (s.1 459 q1 x1) 8)) (if ((s.1 323 x0 0) + (zdiv (s.1 459 q1 x1) 8)) ≤ (s.1 1 b5 0) then (zB (s.1 322 x0 0) fun b8 => zC (zf_2 b8 (s.1 323 x0 0) s) fun v12 s11 => if (zdiv (s.1 459 q1 x1) 8) = 2 then (zB (s11.1 322 x0 0) fun b13 => zg ((s11.1 323 x0 0) + 1) (zC (zf_2 b13 ((s11.1 323 x0 0) + 1) s11) fun v18 s17 => zO (s17.1 321 x0 0) s17 fun q19 => zn x1 48 (if (s17.1 458 q19 x1) = 87 then ((zf_62_107 x0 x1 x2 (zdiv (s.1 459 q1 x1) 8) (zor (zshl v12 8) v18) s17)) else ((zf_62_107 x0 x1 x2 (zdiv (s.1 459 q1 x1) 8) (zor (zshl v18 8) v12) s17))))) else ((zf_62_107 x0 x1 x2 (zdiv (s.1 459 q1 x1) 8) v12 s11))) else (zC (zf_57 x0 1 (s.1 323 x0 0) s) fun v25 s24 => zz v25 s24)))
/-- HexTemplates$Reader.cut(II)I -/
def zf_75 (x0 : Nat) (x1 : Int) (x2 : Int) (s : zS) : zR := zg ((zshl 1 x2) - 1) (zi (zand x1 ((zshl 1 x2) - 1)) s)
/-- HexTemplates$Reader.measureBits(II)Z -/
def zf_63 (x0 : Nat) (x1 : Int) (x2 : Int) (s : zS) : zR := zB (s.1 322 x0 0) fun b1 => if (s.1 323 x0 0) < (s.1 1 b1 0) then (zW 329 x0 48 x2 1 s fun s4 => zB (s4.1 322 x0 0) fun b5 => zC (zf_2 b5 (s4.1 323 x0 0) s4) fun v9 s8 => zO (s8.1 321 x0 0) s8 fun q10 => zn x1 48 (zO (s8.1 321 x0 0) s8 fun q14 => zn x1 48 (zC (zf_75 x0 (zshr v9 (s8.1 460 q10 x1)) (s8.1 459 q14 x1) s8) fun v20 s19 => zW 330 x0 48 x2 v20 s19 fun s22 => zz 1 s22))) else (zC (zf_57 x0 1 (s.1 323 x0 0) s) fun v25 s24 => zz v25 s24)
def zf_72_111 (zk13 : Nat → Int → Int → Int → Int → zS → zR) (x0 : Nat) (x1 : Int) (x2 : Int) (x4 : Int) (s0 : Int64) (s : zS) : zR := zg (x4 + 1) ((zk13 x0 x1 x2 ((zmax64 (Int64.ofInt (-99999)) (zmin64 (Int64.ofInt 99999) s0))).toInt32.toInt (x4 + 1) s))
def zf_72_62 (zk13 : Nat → Int → Int → Int → Int → zS → zR) (x0 : Nat) (x1 : Int) (x2 : Int) (x3 : Int) (x4 : Int) (s0 : Int64) (s : zS) : zR := zO (s.1 321 x0 0) s fun q1 => zn x4 100 (if (s.1 455 q1 x4) = 43 then ((zf_72_111 zk13 x0 x1 x2 x4 ((Int32.ofInt x3).toInt64 + s0) s)) else (if (s.1 455 q1 x4) = 45 then ((zf_72_111 zk13 x0 x1 x2 x4 ((Int32.ofInt x3).toInt64 - s0) s)) else ((zf_72_111 zk13 x0 x1 x2 x4 ((Int32.ofInt x3).toInt64 * s0) s))))
def zf_72_13 : Nat → Nat → Int → Int → Int → Int → zS → zR
  | 0, _, _, _, _, _, _ => none
  | n + 1, x0, x1, x2, x3, x4, s => zO (s.1 321 x0 0) s fun q1 => zn x1 48 (if (s.1 462 q1 x1) ≤ x4 then (zi x3 s) else (zO (s.1 321 x0 0) s fun q5 => zn x4 100 (if (s.1 454 q5 x4) < 0 then (zg (x2 - 1) (zg ((x2 - 1) - (s.1 454 q5 x4)) (zn ((x2 - 1) - (s.1 454 q5 x4)) 48 ((zf_72_62 (fun y0 y1 y2 y3 y4 y => (zf_72_13 n y0 y1 y2 y3 y4 y)) x0 x1 x2 x3 x4 (Int32.ofInt (s.1 330 x0 ((x2 - 1) - (s.1 454 q5 x4)))).toInt64 s))))) else ((zf_72_62 (fun y0 y1 y2 y3 y4 y => (zf_72_13 n y0 y1 y2 y3 y4 y)) x0 x1 x2 x3 x4 (Int32.ofInt (s.1 454 q5 x4)).toInt64 s)))))
/-- HexTemplates$Reader.reckonSum(II)I -/
def zf_72 (x0 : Nat) (x1 : Int) (x2 : Int) (s : zS) : zR := zO (s.1 321 x0 0) s fun q1 => zn x1 48 ((zf_72_13 xfu x0 x1 x2 0 (s.1 461 q1 x1) s))
def zf_64_22 (x0 : Nat) (s : zS) : zR := zC (zf_57 x0 3 (s.1 323 x0 0) s) fun v3 s2 => zz v3 s2
def zf_64_62 (x0 : Nat) (x2 : Int) (x3 : Int) (s : zS) : zR := zW 329 x0 48 x2 x3 s fun s2 => if x3 = 0 then (zW 330 x0 48 x2 (-1) s2 fun s11 => zz 1 s11) else (zB (s2.1 322 x0 0) fun b3 => zC (zf_2 b3 (s2.1 323 x0 0) s2) fun v7 s6 => zW 330 x0 48 x2 v7 s6 fun s9 => zz 1 s9)
/-- HexTemplates$Reader.measureCounted(II)Z -/
def zf_64 (x0 : Nat) (x1 : Int) (x2 : Int) (s : zS) : zR := zg (x2 - (zrem x2 8)) (zC (zf_72 x0 x1 (x2 - (zrem x2 8)) s) fun v4 s3 => if v4 < 0 then ((zf_64_22 x0 s3)) else (if v4 ≤ 100 then (if v4 ≤ 0 then ((zf_64_62 x0 x2 v4 s3)) else (zB (s3.1 322 x0 0) fun b5 => zg ((s3.1 323 x0 0) + v4) (if ((s3.1 323 x0 0) + v4) ≤ (s3.1 1 b5 0) then ((zf_64_62 x0 x2 v4 s3)) else (zC (zf_57 x0 1 (s3.1 323 x0 0) s3) fun v10 s9 => zz v10 s9)))) else ((zf_64_22 x0 s3))))
def zf_65_5 : Nat → Nat → Int → Int → zS → zR
  | 0, _, _, _, _ => none
  | n + 1, x0, x1, x2, s => zB (s.1 322 x0 0) fun b1 => if (s.1 1 b1 0) ≤ x2 then (zC (zf_57 x0 1 (s.1 323 x0 0) s) fun v5 s4 => zz v5 s4) else (zB (s.1 322 x0 0) fun b6 => zC (zf_2 b6 x2 s) fun v10 s9 => if v10 = 0 then (zg (x2 + 1) (zg ((x2 + 1) - (s9.1 323 x0 0)) (zW 329 x0 48 x1 ((x2 + 1) - (s9.1 323 x0 0)) s9 fun s15 => zB (s15.1 322 x0 0) fun b16 => zC (zf_2 b16 (s15.1 323 x0 0) s15) fun v20 s19 => zW 330 x0 48 x1 v20 s19 fun s22 => zz 1 s22))) else (zg (x2 + 1) ((zf_65_5 n x0 x1 (x2 + 1) s9))))
/-- HexTemplates$Reader.measureEnded(I)Z -/
def zf_65 (x0 : Nat) (x1 : Int) (s : zS) : zR := (zf_65_5 xfu x0 x1 (s.1 323 x0 0) s)
/-- HexTemplates$Template.kindOf(I)I -/
def zf_100 (x0 : Nat) (x1 : Int) (s : zS) : zR := zn x1 48 (if (s.1 458 x0 x1) = 110 then (zi 4 s) else (if (s.1 458 x0 x1) = 114 then (zi 3 s) else (if (s.1 458 x0 x1) = 115 then (zi 5 s) else (if (s.1 458 x0 x1) = 122 then (zi 5 s) else (zi 2 s)))))
def zf_61_112 (x0 : Nat) (x1 : Int) (x3 : Int) (x4 : Int) (x5 : Int) (x6 : Int) (s : zS) : zR := if x6 = 0 then (zz 0 s) else (zO (s.1 321 x0 0) s fun q1 => zn x1 48 (zn x3 48 (zn x3 48 (zC (zf_29 x0 x5 (s.1 457 q1 x1) (s.1 329 x0 x3) (s.1 330 x0 x3) s) fun _ s6 => if x4 = 4 then (zO (s6.1 321 x0 0) s6 fun q10 => zn x1 48 (if (s6.1 460 q10 x1) = 0 then (zn x3 48 (zg ((s6.1 323 x0 0) + (s6.1 329 x0 x3)) (zP 323 x0 0 ((s6.1 323 x0 0) + (s6.1 329 x0 x3)) s6 fun s15 => zz 1 s15))) else (zg ((s6.1 323 x0 0) + 0) (zP 323 x0 0 ((s6.1 323 x0 0) + 0) s6 fun s18 => zz 1 s18)))) else (zn x3 48 (zg ((s6.1 323 x0 0) + (s6.1 329 x0 x3)) (zP 323 x0 0 ((s6.1 323 x0 0) + (s6.1 329 x0 x3)) s6 fun s8 => zz 1 s8)))))))
/-- HexTemplates$Reader.readPlain(III)Z -/
def zf_61 (x0 : Nat) (x1 : Int) (x2 : Int) (x3 : Int) (s : zS) : zR := zO (s.1 321 x0 0) s fun q1 => zC (zf_100 q1 x1 s) fun v7 s6 => zC (zf_58 x0 v7 x1 x2 s6) fun v10 s9 => if v10 = (-1) then (zz 0 s9) else (zO (s9.1 321 x0 0) s9 fun q11 => zn x1 48 (if (s9.1 458 q11 x1) = 110 then (zC (zf_63 x0 x1 x3 s9) fun v26 s25 => (zf_61_112 x0 x1 x3 v7 v10 v26 s25)) else (if (s9.1 458 q11 x1) = 115 then (zC (zf_64 x0 x1 x3 s9) fun v23 s22 => (zf_61_112 x0 x1 x3 v7 v10 v23 s22)) else (if (s9.1 458 q11 x1) = 122 then (zC (zf_65 x0 x3 s9) fun v20 s19 => (zf_61_112 x0 x1 x3 v7 v10 v20 s19)) else (zC (zf_62 x0 x1 x3 s9) fun v17 s16 => (zf_61_112 x0 x1 x3 v7 v10 v17 s16))))))
/-- HexTemplates$Reader.goBack(III)V -/
def zf_67 (x0 : Nat) (x1 : Int) (x2 : Int) (x3 : Int) (s : zS) : zR := zP 323 x0 0 x1 s fun s2 => zP 199 x0 0 x2 s2 fun s4 => zP 327 x0 0 x3 s4 fun s6 => zi 0 s6
def zf_66_32 (zrs : Nat → Int → Int → Int → Int → zS → zR) : Nat → Nat → Int → Int → Int → Int → Int → Int → Int → Int → zS → zR
  | 0, _, _, _, _, _, _, _, _, _, _ => none
  | n + 1, x0, x1, x2, x3, x4, x5, x6, x7, x8, s => zO (s.1 321 x0 0) s fun q1 => zn x1 48 (if (s.1 464 q1 x1) ≤ x8 then (zz 0 s) else (zC (zf_67 x0 x5 x6 x7 s) fun _ s6 => zO (s6.1 321 x0 0) s6 fun q7 => zn x8 100 (zC (zrs x0 (s6.1 456 q7 x8) x2 x3 x4 s6) fun v13 s12 => if v13 = 0 then (if (s12.1 325 x0 0) = 5 then (zz 0 s12) else (zg (x8 + 1) ((zf_66_32 zrs n x0 x1 x2 x3 x4 x5 x6 x7 (x8 + 1) s12)))) else (zz 1 s12))))
/-- HexTemplates$Reader.readNames(IIII)Z -/
def zf_66 (zrs : Nat → Int → Int → Int → Int → zS → zR) (x0 : Nat) (x1 : Int) (x2 : Int) (x3 : Int) (x4 : Int) (s : zS) : zR := zO (s.1 321 x0 0) s fun q1 => zn x1 48 ((zf_66_32 zrs xfu x0 x1 x2 x3 x4 (s.1 323 x0 0) (s.1 199 x0 0) (s.1 327 x0 0) (s.1 463 q1 x1) s))
def zf_69_3 (zrs : Nat → Int → Int → Int → Int → zS → zR) : Nat → Nat → Int → Int → Int → Int → Int → zS → zR
  | 0, _, _, _, _, _, _, _ => none
  | n + 1, x0, x1, x2, x3, x4, x5, s => if x4 ≤ x5 then (zz 1 s) else (zg (x3 + 1) (zC (zf_66 zrs x0 x1 (-1) x2 (x3 + 1) s) fun v4 s3 => if v4 = 0 then (zz 0 s3) else (zg (x5 + 1) ((zf_69_3 zrs n x0 x1 x2 x3 x4 (x5 + 1) s3)))))
/-- HexTemplates$Reader.readCounted(IIII)Z -/
def zf_69 (zrs : Nat → Int → Int → Int → Int → zS → zR) (x0 : Nat) (x1 : Int) (x2 : Int) (x3 : Int) (x4 : Int) (s : zS) : zR := (zf_69_3 zrs xfu x0 x1 x2 x3 x4 0 s)
def zf_70_73 (zrs : Nat → Int → Int → Int → Int → zS → zR) (x0 : Nat) (x4 : Int) (x5 : Int) (x6 : Int) (x7 : Int) (s : zS) : zR := zC (zf_67 x0 x5 x6 x7 s) fun _ s2 => zi x4 s2
def zf_70_59 (zrs : Nat → Int → Int → Int → Int → zS → zR) (zk3 : Nat → Int → Int → Int → Int → zS → zR) (x0 : Nat) (x1 : Int) (x2 : Int) (x3 : Int) (x4 : Int) (x5 : Int) (x6 : Int) (x7 : Int) (x8 : Int) (s : zS) : zR := if x8 = 0 then ((zf_70_73 zrs x0 x4 x5 x6 x7 s)) else (if (s.1 323 x0 0) = x5 then ((zf_70_73 zrs x0 x4 x5 x6 x7 s)) else (zg (x4 + 1) ((zk3 x0 x1 x2 x3 (x4 + 1) s))))
def zf_70_3 (zrs : Nat → Int → Int → Int → Int → zS → zR) : Nat → Nat → Int → Int → Int → Int → zS → zR
  | 0, _, _, _, _, _, _ => none
  | n + 1, x0, x1, x2, x3, x4, s => if 200 < x4 then (zi (-1) s) else (zg (x3 + 1) (zC (zf_66 zrs x0 x1 (-1) x2 (x3 + 1) s) fun v4 s3 => if v4 = 0 then (if (s3.1 325 x0 0) = 5 then (zi (-1) s3) else ((zf_70_59 zrs (fun y0 y1 y2 y3 y4 y => (zf_70_3 zrs n y0 y1 y2 y3 y4 y)) x0 x1 x2 x3 x4 (s.1 323 x0 0) (s.1 199 x0 0) (s.1 327 x0 0) v4 s3))) else ((zf_70_59 zrs (fun y0 y1 y2 y3 y4 y => (zf_70_3 zrs n y0 y1 y2 y3 y4 y)) x0 x1 x2 x3 x4 (s.1 323 x0 0) (s.1 199 x0 0) (s.1 327 x0 0) v4 s3))))
/-- HexTemplates$Reader.readWhileFine(III)I -/
def zf_70 (zrs : Nat → Int → Int → Int → Int → zS → zR) (x0 : Nat) (x1 : Int) (x2 : Int) (x3 : Int) (s : zS) : zR := (zf_70_3 zrs xfu x0 x1 x2 x3 0 s)
def zf_71_118 (zrs : Nat → Int → Int → Int → Int → zS → zR) (x0 : Nat) (x4 : Int) (s : zS) : zR := zC (zf_57 x0 1 x4 s) fun v3 s2 => zi (-1) s2
def zf_71_104 (zrs : Nat → Int → Int → Int → Int → zS → zR) (zk9 : Nat → Int → Int → Int → Int → Int → zS → zR) (x0 : Nat) (x1 : Int) (x2 : Int) (x3 : Int) (x4 : Int) (x5 : Int) (x6 : Int) (x7 : Int) (s : zS) : zR := if x7 = 0 then ((zf_71_118 zrs x0 x4 s)) else (if (s.1 323 x0 0) = x6 then ((zf_71_118 zrs x0 x4 s)) else (zg (x5 + 1) ((zk9 x0 x1 x2 x3 x4 (x5 + 1) s))))
def zf_71_82 (zrs : Nat → Int → Int → Int → Int → zS → zR) (zk9 : Nat → Int → Int → Int → Int → Int → zS → zR) (x0 : Nat) (x1 : Int) (x2 : Int) (x3 : Int) (x4 : Int) (x5 : Int) (x6 : Int) (s0 : Int) (s : zS) : zR := if s0 = 0 then ((zf_71_104 zrs zk9 x0 x1 x2 x3 x4 x5 x6 s0 s)) else (zg (x3 + 1) (zC (zf_66 zrs x0 x1 (-1) x2 (x3 + 1) s) fun v4 s3 => if v4 = 0 then (zi (-1) s3) else ((zf_71_104 zrs zk9 x0 x1 x2 x3 x4 x5 x6 s0 s3))))
def zf_71_57 (zrs : Nat → Int → Int → Int → Int → zS → zR) (zk9 : Nat → Int → Int → Int → Int → Int → zS → zR) (x0 : Nat) (x1 : Int) (x2 : Int) (x3 : Int) (x4 : Int) (x5 : Int) (s : zS) : zR := zB (s.1 322 x0 0) fun b1 => if (s.1 1 b1 0) ≤ (s.1 323 x0 0) then ((zf_71_82 zrs zk9 x0 x1 x2 x3 x4 x5 (s.1 323 x0 0) 0 s)) else ((zf_71_82 zrs zk9 x0 x1 x2 x3 x4 x5 (s.1 323 x0 0) 1 s))
def zf_71_9 (zrs : Nat → Int → Int → Int → Int → zS → zR) : Nat → Nat → Int → Int → Int → Int → Int → zS → zR
  | 0, _, _, _, _, _, _, _ => none
  | n + 1, x0, x1, x2, x3, x4, x5, s => if 200 < x5 then (zi (-1) s) else (zB (s.1 322 x0 0) fun b1 => if (s.1 1 b1 0) ≤ (s.1 323 x0 0) then ((zf_71_57 zrs (fun y0 y1 y2 y3 y4 y5 y => (zf_71_9 zrs n y0 y1 y2 y3 y4 y5 y)) x0 x1 x2 x3 x4 x5 s)) else (zB (s.1 322 x0 0) fun b3 => zC (zf_2 b3 (s.1 323 x0 0) s) fun v7 s6 => zO (s6.1 321 x0 0) s6 fun q8 => zn x1 48 (if v7 = (s6.1 466 q8 x1) then (zi x5 s6) else ((zf_71_57 zrs (fun y0 y1 y2 y3 y4 y5 y => (zf_71_9 zrs n y0 y1 y2 y3 y4 y5 y)) x0 x1 x2 x3 x4 x5 s6)))))
/-- HexTemplates$Reader.readToEnd(III)I -/
def zf_71 (zrs : Nat → Int → Int → Int → Int → zS → zR) (x0 : Nat) (x1 : Int) (x2 : Int) (x3 : Int) (s : zS) : zR := (zf_71_9 zrs xfu x0 x1 x2 x3 (s.1 323 x0 0) 0 s)
def zf_68_85 (zrs : Nat → Int → Int → Int → Int → zS → zR) (x0 : Nat) (s : zS) : zR := zC (zf_57 x0 3 (s.1 323 x0 0) s) fun v3 s2 => zz v3 s2
def zf_68_166 (zrs : Nat → Int → Int → Int → Int → zS → zR) (x0 : Nat) (x1 : Int) (x4 : Int) (x5 : Int) (x7 : Int) (x8 : Int) (s : zS) : zR := zO (s.1 321 x0 0) s fun q1 => zn x1 48 (zg ((s.1 323 x0 0) - x4) (zC (zf_29 x0 x7 (s.1 457 q1 x1) ((s.1 323 x0 0) - x4) x8 s) fun _ s7 => zg (x5 + (zrem x1 8)) (zW 330 x0 48 (x5 + (zrem x1 8)) x8 s7 fun s10 => if x8 = (-1) then (zz 0 s10) else (zz 1 s10))))
def zf_68_110 (zrs : Nat → Int → Int → Int → Int → zS → zR) (x0 : Nat) (x1 : Int) (x3 : Int) (x4 : Int) (x5 : Int) (x6 : Int) (x7 : Int) (x8 : Int) (s : zS) : zR := if x6 = 42 then (zC (zf_70 zrs x0 x1 x7 x3 s) fun v9 s8 => (zf_68_166 zrs x0 x1 x4 x5 x7 v9 s8)) else (if x6 = 33 then (zC (zf_71 zrs x0 x1 x7 x3 s) fun v6 s5 => (zf_68_166 zrs x0 x1 x4 x5 x7 v6 s5)) else (zC (zf_69 zrs x0 x1 x7 x3 x8 s) fun v3 s2 => if v3 = 0 then ((zf_68_166 zrs x0 x1 x4 x5 x7 (-1) s2)) else ((zf_68_166 zrs x0 x1 x4 x5 x7 x8 s2))))
def zf_68_95 (zrs : Nat → Int → Int → Int → Int → zS → zR) (x0 : Nat) (x1 : Int) (x3 : Int) (x4 : Int) (x5 : Int) (x6 : Int) (x7 : Int) (x8 : Int) (s : zS) : zR := if x6 = 63 then (if x8 = 0 then ((zf_68_110 zrs x0 x1 x3 x4 x5 x6 x7 x8 s)) else ((zf_68_110 zrs x0 x1 x3 x4 x5 x6 x7 1 s))) else ((zf_68_110 zrs x0 x1 x3 x4 x5 x6 x7 x8 s))
def zf_68_66 (zrs : Nat → Int → Int → Int → Int → zS → zR) (x0 : Nat) (x1 : Int) (x3 : Int) (x4 : Int) (x5 : Int) (x6 : Int) (x7 : Int) (x8 : Int) (s : zS) : zR := if x6 = 43 then (if x8 < 0 then ((zf_68_85 zrs x0 s)) else (if x8 ≤ 20 then ((zf_68_95 zrs x0 x1 x3 x4 x5 x6 x7 x8 s)) else ((zf_68_85 zrs x0 s)))) else ((zf_68_95 zrs x0 x1 x3 x4 x5 x6 x7 x8 s))
def zf_68_57 (zrs : Nat → Int → Int → Int → Int → zS → zR) (x0 : Nat) (x1 : Int) (x3 : Int) (x4 : Int) (x5 : Int) (x6 : Int) (x7 : Int) (s : zS) : zR := zC (zf_72 x0 x1 x5 s) fun v3 s2 => (zf_68_66 zrs x0 x1 x3 x4 x5 x6 x7 v3 s2)
/-- HexTemplates$Reader.readArray(III)Z -/
def zf_68 (zrs : Nat → Int → Int → Int → Int → zS → zR) (x0 : Nat) (x1 : Int) (x2 : Int) (x3 : Int) (s : zS) : zR := zO (s.1 321 x0 0) s fun q1 => zn x1 48 (zC (zf_58 x0 1 x1 x2 s) fun v7 s6 => if v7 = (-1) then (zz 0 s6) else (if (s.1 465 q1 x1) = 43 then (zg (x3 * 8) ((zf_68_57 zrs x0 x1 x3 (s.1 323 x0 0) (x3 * 8) (s.1 465 q1 x1) v7 s6))) else (if (s.1 465 q1 x1) = 63 then (zg (x3 * 8) ((zf_68_57 zrs x0 x1 x3 (s.1 323 x0 0) (x3 * 8) (s.1 465 q1 x1) v7 s6))) else (zg (x3 * 8) ((zf_68_66 zrs x0 x1 x3 (s.1 323 x0 0) (x3 * 8) (s.1 465 q1 x1) v7 0 s6))))))
def zf_60_92 (zrs : Nat → Int → Int → Int → Int → zS → zR) (x0 : Nat) (x4 : Int) (x5 : Int) (s : zS) : zR := zn x4 48 (zg ((s.1 323 x0 0) - (s.1 328 x0 x4)) (zW 329 x0 48 x4 ((s.1 323 x0 0) - (s.1 328 x0 x4)) s fun s3 => zz x5 s3))
/-- HexTemplates$Reader.readField(III)Z -/
def zf_60 (zrs : Nat → Int → Int → Int → Int → zS → zR) (x0 : Nat) (x1 : Int) (x2 : Int) (x3 : Int) (s : zS) : zR := zg (x3 * 8) (zg ((x3 * 8) + (zrem x1 8)) (zW 328 x0 48 ((x3 * 8) + (zrem x1 8)) (s.1 323 x0 0) s fun s4 => zO (s4.1 321 x0 0) s4 fun q5 => zn x1 48 (if (s4.1 458 q5 x1) = 65 then (zg (x3 + 1) (zC (zf_66 zrs x0 x1 x1 x2 (x3 + 1) s4) fun v18 s17 => (zf_60_92 zrs x0 ((x3 * 8) + (zrem x1 8)) v18 s17))) else (if (s4.1 458 q5 x1) = 91 then (zC (zf_68 zrs x0 x1 x2 x3 s4) fun v14 s13 => (zf_60_92 zrs x0 ((x3 * 8) + (zrem x1 8)) v14 s13)) else (zC (zf_61 x0 x1 x2 ((x3 * 8) + (zrem x1 8)) s4) fun v11 s10 => zz v11 s10)))))
def zf_74_23 : Nat → Nat → Int → Int → Int → Int → Int → zS → zR
  | 0, _, _, _, _, _, _, _ => none
  | n + 1, x0, x1, x2, x3, x5, x6, s => zg (x2 + x3) (if (x2 + x3) ≤ x6 then (zi x5 s) else (if x1 = 43 then (zB (s.1 322 x0 0) fun b8 => zC (zf_2 b8 x6 s) fun v12 s11 => zg (x5 + v12) (zg (x6 + 1) ((zf_74_23 n x0 x1 x2 x3 (x5 + v12) (x6 + 1) s11)))) else (zB (s.1 322 x0 0) fun b2 => zC (zf_2 b2 x6 s) fun v6 s5 => zg (x6 + 1) ((zf_74_23 n x0 x1 x2 x3 (zxor x5 v6) (x6 + 1) s5)))))
/-- HexTemplates$Reader.reckon(IIII)I -/
def zf_74 (x0 : Nat) (x1 : Int) (x2 : Int) (x3 : Int) (x4 : Int) (s : zS) : zR := if x1 = 35 then (zi x3 s) else (if x1 = 37 then (zi x4 s) else ((zf_74_23 xfu x0 x1 x2 x3 0 x2 s)))
def zf_73_2 : Nat → Nat → Int → Int → Int → zS → zR
  | 0, _, _, _, _, _ => none
  | n + 1, x0, x1, x2, x3, s => zO (s.1 321 x0 0) s fun q1 => zn x1 6 (if (s.1 453 q1 x1) ≤ x3 then (zi 0 s) else (zO (s.1 321 x0 0) s fun q5 => zg (x1 * 8) (zg ((x1 * 8) + x3) (zn ((x1 * 8) + x3) 48 (if (s.1 467 q5 ((x1 * 8) + x3)) = 0 then (zg (x3 + 1) ((zf_73_2 n x0 x1 x2 (x3 + 1) s))) else (if (s.1 467 q5 ((x1 * 8) + x3)) = 61 then (zg (x3 + 1) ((zf_73_2 n x0 x1 x2 (x3 + 1) s))) else (zO (s.1 321 x0 0) s fun q13 => zn ((x1 * 8) + x3) 48 (zg (x2 * 8) (zg ((x2 * 8) + (zrem (s.1 468 q13 ((x1 * 8) + x3)) 8)) (zn ((x2 * 8) + (zrem (s.1 468 q13 ((x1 * 8) + x3)) 8)) 48 (zn ((x2 * 8) + (zrem (s.1 468 q13 ((x1 * 8) + x3)) 8)) 48 (zn ((x2 * 8) + (zrem (s.1 468 q13 ((x1 * 8) + x3)) 8)) 48 (zC (zf_74 x0 (s.1 467 q5 ((x1 * 8) + x3)) (s.1 328 x0 ((x2 * 8) + (zrem (s.1 468 q13 ((x1 * 8) + x3)) 8))) (s.1 329 x0 ((x2 * 8) + (zrem (s.1 468 q13 ((x1 * 8) + x3)) 8))) (s.1 330 x0 ((x2 * 8) + (zrem (s.1 468 q13 ((x1 * 8) + x3)) 8))) s) fun v21 s20 => zg ((x2 * 8) + x3) (zn ((x2 * 8) + x3) 48 (zO (s20.1 321 x0 0) s20 fun q23 => zn ((x1 * 8) + x3) 48 (zC (zf_75 x0 v21 (s20.1 459 q23 ((x1 * 8) + x3)) s20) fun v29 s28 => if (s20.1 330 x0 ((x2 * 8) + x3)) = v29 then (zg (x3 + 1) ((zf_73_2 n x0 x1 x2 (x3 + 1) s28))) else (zg ((s28.1 327 x0 0) + 1) (zP 327 x0 0 ((s28.1 327 x0 0) + 1) s28 fun s32 => zg (x3 + 1) ((zf_73_2 n x0 x1 x2 (x3 + 1) s32))))))))))))))))))))
/-- HexTemplates$Reader.countWrongIn(II)V -/
def zf_73 (x0 : Nat) (x1 : Int) (x2 : Int) (s : zS) : zR := (zf_73_2 xfu x0 x1 x2 0 s)
def zf_59_125 (zrs : Nat → Int → Int → Int → Int → zS → zR) (x0 : Nat) (x5 : Int) (x7 : Int) (s0 : Nat) (s1 : Int) (s2 : Int) (s : zS) : zR := zg ((s.1 323 x0 0) - x5) (zC (zf_29 s0 s1 s2 ((s.1 323 x0 0) - x5) x7 s) fun _ s3 => zz 1 s3)
def zf_59_42 (zrs : Nat → Int → Int → Int → Int → zS → zR) : Nat → Nat → Int → Int → Int → Int → Int → Int → zS → zR
  | 0, _, _, _, _, _, _, _, _ => none
  | n + 1, x0, x1, x2, x4, x5, x6, x7, s => zO (s.1 321 x0 0) s fun q1 => zn x1 6 (if (s.1 453 q1 x1) ≤ x7 then (zC (zf_73 x0 x1 x4 s) fun _ s6 => zO (s6.1 321 x0 0) s6 fun q7 => zn x1 6 (if x2 = (-1) then ((zf_59_125 zrs x0 x5 (s6.1 452 q7 x1) x0 x6 (s6.1 452 q7 x1) s6)) else (zO (s6.1 321 x0 0) s6 fun q11 => zn x2 48 ((zf_59_125 zrs x0 x5 (s6.1 452 q7 x1) x0 x6 (s6.1 457 q11 x2) s6))))) else (zg (x1 * 8) (zg ((x1 * 8) + x7) (zC (zf_60 zrs x0 ((x1 * 8) + x7) x6 x4 s) fun v19 s18 => if v19 = 0 then (zz 0 s18) else (zg (x7 + 1) ((zf_59_42 zrs n x0 x1 x2 x4 x5 x6 (x7 + 1) s18)))))))
/-- HexTemplates$Reader.readStructure(IIII)Z -/
def zf_59_b (zrs : Nat → Int → Int → Int → Int → zS → zR) (x0 : Nat) (x1 : Int) (x2 : Int) (x3 : Int) (x4 : Int) (s : zS) : zR := if x4 ≤ 5 then (zC (zf_58 x0 0 x2 x3 s) fun v3 s2 => if v3 = (-1) then (zz 0 s2) else ((zf_59_42 zrs xfu x0 x1 x2 x4 (s.1 323 x0 0) v3 0 s2))) else (zC (zf_57 x0 4 (s.1 323 x0 0) s) fun v6 s5 => zz v6 s5)
def zf_59 : Nat → Nat → Int → Int → Int → Int → zS → zR
  | 0, _, _, _, _, _, _ => none
  | n + 1, x0, x1, x2, x3, x4, s => zf_59_b (zf_59 n) x0 x1 x2 x3 x4 s
/-- HexTemplates$Reader.readAt(LHexTemplates$Template;LHexTemplates$Bytes;II)Z -/
def zf_56 (x0 : Nat) (x1 : Int) (x2 : Nat) (x3 : Int) (x4 : Int) (s : zS) : zR := zP 321 x0 0 x1 s fun s2 => zP 322 x0 0 ((x2 : Nat) + 1 : Int) s2 fun s4 => zP 323 x0 0 x4 s4 fun s6 => zP 324 x0 0 0 s6 fun s8 => zP 327 x0 0 0 s8 fun s10 => zP 199 x0 0 0 s10 fun s12 => zP 325 x0 0 0 s12 fun s14 => zP 326 x0 0 (-1) s14 fun s16 => zIf x1 s16 (zz 0 s16) fun q17 => if x3 < 0 then (zz 0 s16) else (if x3 < (s16.1 449 q17 0) then (zC (zf_59 8 x0 x3 (-1) (-1) 0 s16) fun v23 s22 => if v23 = 0 then (zz v23 s22) else (zP 325 x0 0 0 s22 fun s25 => zP 326 x0 0 (-1) s25 fun s27 => zz v23 s27)) else (zz 0 s16))
/-- HexTemplates.chosenTemplate()LHexTemplates$Template; -/
def zf_132 (x0 : Nat) (s : zS) : zR := if (s.1 523 x0 0) < 0 then (zi 0 s) else (if (s.1 522 x0 0) ≤ (s.1 523 x0 0) then (zi 0 s) else (zn (s.1 523 x0 0) 4 (zi (s.1 515 x0 (s.1 523 x0 0)) s)))
def zf_133_19 : Nat → Nat → Int → Int → zS → zR
  | 0, _, _, _, _ => none
  | n + 1, x0, x1, x2, s => if (s.1 522 x0 0) ≤ x2 then (zC (zf_132 x0 s) fun v3 s2 => zC (zf_56 0 v3 1 0 0 s2) fun v6 s5 => zi 0 s5) else (zn x2 4 (zIf (s.1 515 x0 x2) s (zg (x2 + 1) ((zf_133_19 n x0 x1 (x2 + 1) s))) fun q8 => if (s.1 448 q8 0) ≤ x1 then (zg (x2 + 1) ((zf_133_19 n x0 x1 (x2 + 1) s))) else (zC (zf_56 0 ((q8 : Int) + 1) 1 0 0 s) fun v15 s14 => if v15 = 0 then (zg (x2 + 1) ((zf_133_19 n x0 x1 (x2 + 1) s14))) else (zP 523 x0 0 x2 s14 fun s18 => zg (x2 + 1) ((zf_133_19 n x0 (s18.1 448 q8 0) (x2 + 1) s18))))))
/-- HexTemplates.readFile()V -/
def zf_133 (x0 : Nat) (s : zS) : zR := if (s.1 523 x0 0) = (-3) then (zP 523 x0 0 (-1) s fun s2 => (zf_133_19 xfu x0 (-1) 0 s2)) else (zi 0 s)
/-- HexTemplates.checkNode(I)V -/
def zf_135 (x0 : Nat) (x1 : Int) (s : zS) : zR := zC (zf_133 x0 s) fun _ s2 => zC (zf_27 0 x1 s2) fun v5 s4 => if v5 = 0 then (zt 2 s4) else (zi 0 s4)
/-- HexTemplates$Nodes.isNumeric(I)Z -/
def zf_30 (x0 : Nat) (x1 : Int) (s : zS) : zR := zC (zf_27 x0 x1 s) fun v3 s2 => if v3 = 0 then (zz 0 s2) else (zn x1 200 (if (s2.1 192 x0 x1) = 2 then (zz 1 s2) else (zn x1 200 (if (s2.1 192 x0 x1) = 3 then (zz 1 s2) else (zn x1 200 (if (s2.1 192 x0 x1) = 4 then (zz 1 s2) else (zz 0 s2)))))))
def zf_76_24 (x0 : Nat) (s0 : Int) (s : zS) : zR := if s0 = (-1) then (zi 0 s) else (zO (s.1 321 x0 0) s fun q1 => zn s0 48 (zi (s.1 467 q1 s0) s))
/-- HexTemplates$Reader.relationOf(I)I -/
def zf_76 (x0 : Nat) (x1 : Int) (s : zS) : zR := zC (zf_27 x0 x1 s) fun v3 s2 => if v3 = 0 then ((zf_76_24 x0 (-1) s2)) else (zn x1 200 ((zf_76_24 x0 (s2.1 198 x0 x1) s2)))
/-- HexTemplates.isFree(I)Z -/
def zf_139 (x0 : Nat) (x1 : Int) (s : zS) : zR := zC (zf_30 0 x1 s) fun v3 s2 => if v3 = 0 then (zz 0 s2) else (zC (zf_76 0 x1 s2) fun v6 s5 => if v6 = 0 then (zz 1 s5) else (zz 0 s5))
def zf_31_4 : Nat → Nat → Int → Int → Int → zS → zR
  | 0, _, _, _, _, _ => none
  | n + 1, x0, x1, x2, x3, s => if (s.1 199 x0 0) ≤ x3 then (zi (-1) s) else (zn x3 200 (if (s.1 197 x0 x3) = x1 then (zn x3 200 (if (s.1 198 x0 x3) = x2 then (zi x3 s) else (zg (x3 + 1) ((zf_31_4 n x0 x1 x2 (x3 + 1) s))))) else (zg (x3 + 1) ((zf_31_4 n x0 x1 x2 (x3 + 1) s)))))
/-- HexTemplates$Nodes.fieldIn(II)I -/
def zf_31 (x0 : Nat) (x1 : Int) (x2 : Int) (s : zS) : zR := zg (x1 + 1) ((zf_31_4 xfu x0 x1 x2 (x1 + 1) s))
/-- HexTemplates$Reader.otherOf(I)I -/
def zf_77 (x0 : Nat) (x1 : Int) (s : zS) : zR := zC (zf_76 x0 x1 s) fun v3 s2 => if v3 = 0 then (zi (-1) s2) else (if v3 = 61 then (zi (-1) s2) else (zn x1 200 (zO (s2.1 321 x0 0) s2 fun q4 => zn x1 200 (zn (s2.1 198 x0 x1) 48 (zC (zf_31 x0 (s2.1 197 x0 x1) (s2.1 468 q4 (s2.1 198 x0 x1)) s2) fun v10 s9 => zi v10 s9)))))
/-- HexTemplates$Reader.dueOf(I)I -/
def zf_78 (x0 : Nat) (x1 : Int) (s : zS) : zR := zC (zf_77 x0 x1 s) fun v3 s2 => if v3 = (-1) then (zn x1 200 (zi (s2.1 196 x0 x1) s2)) else (zC (zf_76 x0 x1 s2) fun v6 s5 => zn v3 200 (zn v3 200 (zn v3 200 (zC (zf_74 x0 v6 (s5.1 194 x0 v3) (s5.1 195 x0 v3) (s5.1 196 x0 v3) s5) fun v9 s8 => zO (s8.1 321 x0 0) s8 fun q10 => zn x1 200 (zn (s8.1 198 x0 x1) 48 (zC (zf_75 x0 v9 (s8.1 459 q10 (s8.1 198 x0 x1)) s8) fun v16 s15 => zi v16 s15))))))
def zf_16_43 (zk4 : Nat → Nat → Int → Int → zS → zR) (x0 : Nat) (x1 : Nat) (x2 : Int) (x3 : Int) (x5 : Int) (s : zS) : zR := zn x3 200 (if (s.1 196 x1 x3) = x5 then (zg (x3 + 1) ((zk4 x0 x1 x2 (x3 + 1) s))) else (zC (zf_11 x0 x1 x3 x5 s) fun _ s3 => zg (x2 + 1) (zg (x3 + 1) ((zk4 x0 x1 (x2 + 1) (x3 + 1) s3)))))
def zf_16_4 : Nat → Nat → Nat → Int → Int → zS → zR
  | 0, _, _, _, _, _ => none
  | n + 1, x0, x1, x2, x3, s => if (s.1 199 x1 0) ≤ x3 then (zi x2 s) else (zC (zf_76 x1 x3 s) fun v3 s2 => zC (zf_78 x1 x3 s2) fun v6 s5 => if v3 = 35 then ((zf_16_43 (fun y0 y1 y2 y3 y => (zf_16_4 n y0 y1 y2 y3 y)) x0 x1 x2 x3 v6 s5)) else (if v3 = 37 then ((zf_16_43 (fun y0 y1 y2 y3 y => (zf_16_4 n y0 y1 y2 y3 y)) x0 x1 x2 x3 v6 s5)) else (zg (x3 + 1) ((zf_16_4 n x0 x1 x2 (x3 + 1) s5)))))
/-- HexTemplates$Editor.mendCounts(LHexTemplates$Reader;)I -/
def zf_16 (x0 : Nat) (x1 : Nat) (s : zS) : zR := (zf_16_4 xfu x0 x1 0 0 s)
def zf_15_2 : Nat → Nat → Nat → Int → Int → zS → zR
  | 0, _, _, _, _, _ => none
  | n + 1, x0, x1, x2, x3, s => if 4 < x3 then (zz 0 s) else (zC (zf_56 x1 x2 2 0 0 s) fun v3 s2 => if v3 = 0 then (zz 0 s2) else (zC (zf_16 x0 x1 s2) fun v6 s5 => if v6 = 0 then (zz 1 s5) else (zg (x3 + 1) ((zf_15_2 n x0 x1 x2 (x3 + 1) s5)))))
/-- HexTemplates$Editor.settleCounts(LHexTemplates$Reader;LHexTemplates$Template;)Z -/
def zf_15 (x0 : Nat) (x1 : Nat) (x2 : Int) (s : zS) : zR := (zf_15_2 xfu x0 x1 x2 0 s)
def zf_19_2 : Nat → Nat → Nat → Int → Int → zS → zR
  | 0, _, _, _, _, _ => none
  | n + 1, x0, x1, x2, x3, s => zC (zf_27 x1 x3 s) fun v3 s2 => if v3 = 0 then (zz 0 s2) else (zn x3 200 (zn x2 200 (zn x2 200 (zg ((s2.1 194 x1 x2) + (s2.1 195 x1 x2)) (if ((s2.1 194 x1 x2) + (s2.1 195 x1 x2)) ≤ (s2.1 194 x1 x3) then (zz 0 s2) else (zn x3 200 (if (s2.1 65 x0 x3) = 0 then (zg (x3 + 1) ((zf_19_2 n x0 x1 x2 (x3 + 1) s2))) else (zz 1 s2))))))))
/-- HexTemplates$Editor.hasLeftIn(LHexTemplates$Nodes;I)Z -/
def zf_19 (x0 : Nat) (x1 : Nat) (x2 : Int) (s : zS) : zR := (zf_19_2 xfu x0 x1 x2 x2 s)
def zf_18_2 : Nat → Nat → Nat → Int → zS → zR
  | 0, _, _, _, _ => none
  | n + 1, x0, x1, x2, s => if (s.1 199 x1 0) ≤ x2 then (zi (-1) s) else (zn x2 200 (if (s.1 65 x0 x2) = 0 then (zg (x2 + 1) ((zf_18_2 n x0 x1 (x2 + 1) s))) else (zC (zf_77 x1 x2 s) fun v4 s3 => zC (zf_19 x0 x1 v4 s3) fun v7 s6 => if v7 = 0 then (zi x2 s6) else (zg (x2 + 1) ((zf_18_2 n x0 x1 (x2 + 1) s6))))))
/-- HexTemplates$Editor.firstReady(LHexTemplates$Reader;)I -/
def zf_18 (x0 : Nat) (x1 : Nat) (s : zS) : zR := (zf_18_2 xfu x0 x1 0 s)
def zf_17_52 (zk10 : Nat → Nat → Nat → Int → Int → zS → zR) (x0 : Nat) (x1 : Nat) (x2 : Nat) (x3 : Int) (x4 : Int) (s0 : Nat) (s1 : Int) (s2 : Int) (s : zS) : zR := zWz 65 s0 200 s1 s2 s fun s2 => zn x4 200 (if (s2.1 65 x0 x4) = 0 then (zg (x3 + 0) (zg (x4 + 1) ((zk10 x0 x1 x2 (x3 + 0) (x4 + 1) s2)))) else (zg (x3 + 1) (zg (x4 + 1) ((zk10 x0 x1 x2 (x3 + 1) (x4 + 1) s2)))))
def zf_17_80 : Nat → Nat → Nat → Int → zS → zR
  | 0, _, _, _, _ => none
  | n + 1, x0, x1, x4, s => if x4 ≤ 0 then (zz 1 s) else (zC (zf_18 x0 x1 s) fun v3 s2 => if v3 = (-1) then (zz 0 s2) else (zC (zf_78 x1 v3 s2) fun v6 s5 => zC (zf_11 x0 x1 v3 v6 s5) fun _ s8 => zWz 65 x0 200 v3 0 s8 fun s10 => zg (x4 + (-1)) ((zf_17_80 n x0 x1 (x4 + (-1)) s10))))
def zf_17_10 : Nat → Nat → Nat → Nat → Int → Int → zS → zR
  | 0, _, _, _, _, _, _ => none
  | n + 1, x0, x1, x2, x3, x4, s => if (s.1 199 x2 0) ≤ x4 then ((zf_17_80 xfu x0 x1 x3 s)) else (zC (zf_76 x1 x4 s) fun v3 s2 => if v3 = 43 then ((zf_17_52 (fun y0 y1 y2 y3 y4 y => (zf_17_10 n y0 y1 y2 y3 y4 y)) x0 x1 x2 x3 x4 x0 x4 1 s2)) else (if v3 = 94 then ((zf_17_52 (fun y0 y1 y2 y3 y4 y => (zf_17_10 n y0 y1 y2 y3 y4 y)) x0 x1 x2 x3 x4 x0 x4 1 s2)) else ((zf_17_52 (fun y0 y1 y2 y3 y4 y => (zf_17_10 n y0 y1 y2 y3 y4 y)) x0 x1 x2 x3 x4 x0 x4 0 s2))))
/-- HexTemplates$Editor.settleSums(LHexTemplates$Reader;)Z -/
def zf_17 (x0 : Nat) (x1 : Nat) (s : zS) : zR := (zf_17_10 xfu x0 x1 x1 0 0 s)
def zf_80_4 : Nat → Nat → Int → Int → zS → zR
  | 0, _, _, _, _ => none
  | n + 1, x0, x1, x2, s => if (s.1 199 x0 0) ≤ x2 then (zi x1 s) else (zn x2 200 (zC (zf_78 x0 x2 s) fun v3 s2 => if (s.1 196 x0 x2) = v3 then (zg (x1 + 0) (zg (x2 + 1) ((zf_80_4 n x0 (x1 + 0) (x2 + 1) s2)))) else (zg (x1 + 1) (zg (x2 + 1) ((zf_80_4 n x0 (x1 + 1) (x2 + 1) s2))))))
/-- HexTemplates$Reader.countWrong()I -/
def zf_80 (x0 : Nat) (s : zS) : zR := (zf_80_4 xfu x0 0 0 s)
/-- HexTemplates$Editor.stands(LHexTemplates$Reader;LHexTemplates$Template;)Z -/
def zf_20 (x0 : Nat) (x1 : Nat) (x2 : Int) (s : zS) : zR := zC (zf_56 x1 x2 2 0 0 s) fun v3 s2 => if v3 = 0 then (zz 0 s2) else (zC (zf_80 x1 s2) fun v6 s5 => if v6 = 0 then (zz 1 s5) else (zz 0 s5))
/-- HexTemplates$States.isFull()Z -/
def zf_88 (x0 : Nat) (s : zS) : zR := if (s.1 387 x0 0) < 30 then (zz 0 s) else (zz 1 s)
def zf_93_47 : Nat → Nat → Nat → Int → zS → zR
  | 0, _, _, _, _ => none
  | n + 1, x0, x1, x2, s => if (s.1 1 x1 0) ≤ x2 then (zP 388 x0 0 (s.1 387 x0 0) s fun s2 => zg ((s2.1 387 x0 0) + 1) (zP 387 x0 0 ((s2.1 387 x0 0) + 1) s2 fun s4 => zi (s4.1 388 x0 0) s4)) else (zC (zf_2 x1 x2 s) fun v8 s7 => zg ((s.1 387 x0 0) * 160) (zg (((s.1 387 x0 0) * 160) + x2) (zW 384 x0 4800 (((s.1 387 x0 0) * 160) + x2) v8 s7 fun s12 => zg (x2 + 1) ((zf_93_47 n x0 x1 (x2 + 1) s12)))))
/-- HexTemplates$States.keep(LHexTemplates$Bytes;)I -/
def zf_93 (x0 : Nat) (x1 : Nat) (s : zS) : zR := zC (zf_88 x0 s) fun v3 s2 => if v3 = 0 then (if (s2.1 1 x1 0) ≤ 160 then (zW 385 x0 30 (s2.1 387 x0 0) (s2.1 1 x1 0) s2 fun s5 => zW 386 x0 30 (s5.1 387 x0 0) (s5.1 388 x0 0) s5 fun s7 => (zf_93_47 xfu x0 x1 0 s7)) else (zi (-1) s2)) else (zi (-1) s2)
/-- HexTemplates.keepFile()I -/
def zf_131 (x0 : Nat) (s : zS) : zR := zP 523 x0 0 (-3) s fun s2 => zC (zf_93 0 1 s2) fun v5 s4 => zi v5 s4
/-- HexTemplates.finishEdit()I -/
def zf_140 (x0 : Nat) (s : zS) : zR := zC (zf_132 x0 s) fun v3 s2 => zIf v3 s2 (zt 1 s2) fun q4 => zC (zf_88 0 s2) fun v10 s9 => if v10 = 0 then (zC (zf_15 0 1 ((q4 : Int) + 1) s9) fun v13 s12 => if v13 = 0 then (zt 1 s12) else (zC (zf_17 0 1 s12) fun v16 s15 => if v16 = 0 then (zt 1 s15) else (zC (zf_20 0 1 ((q4 : Int) + 1) s15) fun v19 s18 => if v19 = 0 then (zt 1 s18) else (zC (zf_5 1 2 s18) fun _ s21 => zC (zf_131 x0 s21) fun v24 s23 => zi v24 s23)))) else (zt 1 s9)
/-- HexTemplates.set(II)I -/
def zf_123 (x0 : Nat) (x1 : Int) (x2 : Int) (s : zS) : zR := zC (zf_135 x0 x1 s) fun _ s2 => zC (zf_139 x0 x1 s2) fun v5 s4 => if v5 = 0 then (zt 1 s4) else (if x2 < 0 then (zt 1 s4) else (zC (zf_83 0 x1 s4) fun v8 s7 => if x2 ≤ v8 then (zC (zf_10 0 1 s7) fun _ s10 => zC (zf_11 0 0 x1 x2 s10) fun _ s12 => zC (zf_140 x0 s12) fun v15 s14 => zi v15 s14) else (zt 1 s7)))
def zf_6_39 : Nat → Nat → Int → Int → Int → zS → zR
  | 0, _, _, _, _, _ => none
  | n + 1, x0, x1, x2, x3, s => if x3 < x1 then (zg ((s.1 1 x0 0) + x2) (zP 1 x0 0 ((s.1 1 x0 0) + x2) s fun s2 => zz 1 s2)) else (zn x3 (zlB x0) (zg (x3 + x2) (zW 0 x0 (zlB x0) (x3 + x2) (s.1 0 x0 x3) s fun s6 => zg (x3 + (-1)) ((zf_6_39 n x0 x1 x2 (x3 + (-1)) s6)))))
/-- HexTemplates$Bytes.open(II)Z -/
def zf_6 (x0 : Nat) (x1 : Int) (x2 : Int) (s : zS) : zR := if x1 < 0 then (zz 0 s) else (if (s.1 1 x0 0) < x1 then (zz 0 s) else (if x2 < 0 then (zz 0 s) else (zg (((zlB x0 : Nat) : Int) - (s.1 1 x0 0)) (if x2 ≤ (((zlB x0 : Nat) : Int) - (s.1 1 x0 0)) then (zg ((s.1 1 x0 0) - 1) ((zf_6_39 xfu x0 x1 x2 ((s.1 1 x0 0) - 1) s))) else (zz 0 s)))))
def zf_34_5 : Nat → Nat → Int → Int → Int → zS → zR
  | 0, _, _, _, _, _ => none
  | n + 1, x0, x1, x3, x4, s => if 200 ≤ x4 then (zz 0 s) else (zC (zf_27 x0 x3 s) fun v3 s2 => if v3 = 0 then (zz 0 s2) else (if x3 = x1 then (zz 1 s2) else (zn x3 200 (zg (x4 + 1) ((zf_34_5 n x0 x1 (s2.1 197 x0 x3) (x4 + 1) s2))))))
/-- HexTemplates$Nodes.holds(II)Z -/
def zf_34 (x0 : Nat) (x1 : Int) (x2 : Int) (s : zS) : zR := (zf_34_5 xfu x0 x1 x2 0 s)
def zf_14_70 (zk9 : Nat → Nat → Int → Int → Int → Nat → Int → zS → zR) (x0 : Nat) (x1 : Nat) (x2 : Int) (x3 : Int) (x4 : Int) (x5 : Nat) (x6 : Int) (x7 : Int) (x8 : Int) (s : zS) : zR := if x7 = 37 then (if x8 = x2 then (zn x8 200 (zg ((s.1 196 x5 x8) + x4) (zC (zf_11 x0 x1 x6 ((s.1 196 x5 x8) + x4) s) fun _ s5 => zg (x6 + 1) ((zk9 x0 x1 x2 x3 x4 x5 (x6 + 1) s5))))) else (zg (x6 + 1) ((zk9 x0 x1 x2 x3 x4 x5 (x6 + 1) s)))) else (zg (x6 + 1) ((zk9 x0 x1 x2 x3 x4 x5 (x6 + 1) s)))
def zf_14_9 : Nat → Nat → Nat → Int → Int → Int → Nat → Int → zS → zR
  | 0, _, _, _, _, _, _, _, _ => none
  | n + 1, x0, x1, x2, x3, x4, x5, x6, s => if (s.1 199 x5 0) ≤ x6 then (zi 0 s) else (zC (zf_76 x1 x6 s) fun v3 s2 => zC (zf_77 x1 x6 s2) fun v6 s5 => if v3 = 35 then (zC (zf_34 x5 v6 x2 s5) fun v9 s8 => if v9 = 0 then ((zf_14_70 (fun y0 y1 y2 y3 y4 y5 y6 y => (zf_14_9 n y0 y1 y2 y3 y4 y5 y6 y)) x0 x1 x2 x3 x4 x5 x6 v3 v6 s8)) else (zn v6 200 (zg ((s8.1 195 x5 v6) + x3) (zC (zf_11 x0 x1 x6 ((s8.1 195 x5 v6) + x3) s8) fun _ s12 => (zf_14_70 (fun y0 y1 y2 y3 y4 y5 y6 y => (zf_14_9 n y0 y1 y2 y3 y4 y5 y6 y)) x0 x1 x2 x3 x4 x5 x6 v3 v6 s12))))) else ((zf_14_70 (fun y0 y1 y2 y3 y4 y5 y6 y => (zf_14_9 n y0 y1 y2 y3 y4 y5 y6 y)) x0 x1 x2 x3 x4 x5 x6 v3 v6 s5)))
/-- HexTemplates$Editor.tellNewLengths(LHexTemplates$Reader;III)V -/
def zf_14 (x0 : Nat) (x1 : Nat) (x2 : Int) (x3 : Int) (x4 : Int) (s : zS) : zR := (zf_14_9 xfu x0 x1 x2 x3 x4 x1 0 s)
def zf_12_27 : Nat → Nat → Nat → Int → Int → Int → Nat → Int → zS → zR
  | 0, _, _, _, _, _, _, _, _ => none
  | n + 1, x0, x1, x2, x3, x4, x5, x6, s => if (s.1 199 x5 0) ≤ x6 then (zC (zf_14 x0 x1 x2 x4 1 s) fun _ s2 => zC (zf_6 2 x3 x4 s2) fun v5 s4 => zz v5 s4) else (zn x6 200 (if (s.1 192 x5 x6) = 3 then (zn x6 200 (if (s.1 196 x5 x6) < x3 then (zg (x6 + 1) ((zf_12_27 n x0 x1 x2 x3 x4 x5 (x6 + 1) s))) else (zn x6 200 (zg ((s.1 196 x5 x6) + x4) (if ((s.1 196 x5 x6) + x4) ≤ 255 then (zn x6 200 (zC (zf_11 x0 x1 x6 ((s.1 196 x5 x6) + x4) s) fun _ s10 => zg (x6 + 1) ((zf_12_27 n x0 x1 x2 x3 x4 x5 (x6 + 1) s10)))) else (zz 0 s)))))) else (zg (x6 + 1) ((zf_12_27 n x0 x1 x2 x3 x4 x5 (x6 + 1) s)))))
/-- HexTemplates$Editor.putIn(LHexTemplates$Reader;III)Z -/
def zf_12 (x0 : Nat) (x1 : Nat) (x2 : Int) (x3 : Int) (x4 : Int) (s : zS) : zR := zg ((s.1 1 2 0) + x4) (if ((s.1 1 2 0) + x4) ≤ 160 then ((zf_12_27 xfu x0 x1 x2 x3 x4 x1 0 s)) else (zz 0 s))
/-- HexTemplates$Reader.isEndedByZero(I)Z -/
def zf_85 (x0 : Nat) (x1 : Int) (s : zS) : zR := zC (zf_81 x0 x1 s) fun v3 s2 => if v3 = 122 then (zz 1 s2) else (zz 0 s2)
/-- HexTemplates$Reader.stringLength(I)I -/
def zf_86 (x0 : Nat) (x1 : Int) (s : zS) : zR := zC (zf_27 x0 x1 s) fun v3 s2 => if v3 = 0 then (zi (-1) s2) else (zn x1 200 (if (s2.1 192 x0 x1) = 5 then (zC (zf_85 x0 x1 s2) fun v6 s5 => if v6 = 0 then (zn x1 200 (zi (s5.1 195 x0 x1) s5)) else (zn x1 200 (zg ((s5.1 195 x0 x1) - 1) (zi ((s5.1 195 x0 x1) - 1) s5)))) else (zi (-1) s2)))
/-- HexTemplates.checkPlace(II)V -/
def zf_137 (x0 : Nat) (x1 : Int) (x2 : Int) (s : zS) : zR := if x1 < 0 then (zt 1 s) else (if x1 ≤ x2 then (zi 0 s) else (zt 1 s))
/-- HexTemplates.checkEdit(Z)V -/
def zf_138 (x0 : Nat) (x1 : Int) (s : zS) : zR := if x1 = 0 then (zt 1 s) else (zi 0 s)
def zf_124_65 (x0 : Nat) (x1 : Int) (x2 : Int) (x3 : Int) (s : zS) : zR := zn x1 200 (zC (zf_10 0 1 s) fun _ s2 => zg ((s.1 194 0 x1) + x2) (zC (zf_12 0 0 x1 ((s.1 194 0 x1) + x2) 1 s2) fun v6 s5 => zC (zf_3 2 ((s.1 194 0 x1) + x2) x3 s5) fun _ s8 => zC (zf_138 x0 v6 s8) fun _ s10 => zC (zf_140 x0 s10) fun v13 s12 => zi v13 s12))
/-- HexTemplates.insert(III)I -/
def zf_124 (x0 : Nat) (x1 : Int) (x2 : Int) (x3 : Int) (s : zS) : zR := zC (zf_135 x0 x1 s) fun _ s2 => if x3 < 0 then (zt 0 s2) else (if x3 ≤ 255 then (zC (zf_86 0 x1 s2) fun v5 s4 => zC (zf_137 x0 x2 v5 s4) fun _ s7 => if x3 = 0 then (zC (zf_85 0 x1 s7) fun v10 s9 => if v10 = 0 then ((zf_124_65 x0 x1 x2 x3 s9)) else (zt 1 s9)) else ((zf_124_65 x0 x1 x2 x3 s7))) else (zt 0 s2))
def zf_7_23 : Nat → Nat → Int → Int → zS → zR
  | 0, _, _, _, _ => none
  | n + 1, x0, x2, x3, s => if (s.1 1 x0 0) ≤ x3 then (zg ((s.1 1 x0 0) - x2) (zP 1 x0 0 ((s.1 1 x0 0) - x2) s fun s2 => zi 0 s2)) else (zn x3 (zlB x0) (zg (x3 - x2) (zW 0 x0 (zlB x0) (x3 - x2) (s.1 0 x0 x3) s fun s6 => zg (x3 + 1) ((zf_7_23 n x0 x2 (x3 + 1) s6)))))
/-- HexTemplates$Bytes.close(II)V -/
def zf_7 (x0 : Nat) (x1 : Int) (x2 : Int) (s : zS) : zR := if x1 < 0 then (zi 0 s) else (if x2 < 0 then (zi 0 s) else (zg ((s.1 1 x0 0) - x1) (if x2 ≤ ((s.1 1 x0 0) - x1) then (zg (x1 + x2) ((zf_7_23 xfu x0 x2 (x1 + x2) s))) else (zi 0 s))))
/-- java/lang/Math.max(II)I -/
def zf_22 (x0 : Int) (x1 : Int) (s : zS) : zR := if x0 < x1 then (zi x1 s) else (zi x0 s)
def zf_13_9 : Nat → Nat → Nat → Int → Int → Int → Nat → Int → zS → zR
  | 0, _, _, _, _, _, _, _, _ => none
  | n + 1, x0, x1, x2, x3, x4, x5, x6, s => if (s.1 199 x5 0) ≤ x6 then (zg (-x4) (zC (zf_14 x0 x1 x2 (-x4) (-1) s) fun _ s3 => zC (zf_7 2 x3 x4 s3) fun _ s5 => zi 0 s5)) else (zn x6 200 (if (s.1 192 x5 x6) = 3 then (zn x6 200 (if (s.1 196 x5 x6) ≤ x3 then (zg (x6 + 1) ((zf_13_9 n x0 x1 x2 x3 x4 x5 (x6 + 1) s))) else (zn x6 200 (zg ((s.1 196 x5 x6) - x4) (zC (zf_22 ((s.1 196 x5 x6) - x4) x3 s) fun v11 s10 => zC (zf_11 x0 x1 x6 v11 s10) fun _ s13 => zg (x6 + 1) ((zf_13_9 n x0 x1 x2 x3 x4 x5 (x6 + 1) s13))))))) else (zg (x6 + 1) ((zf_13_9 n x0 x1 x2 x3 x4 x5 (x6 + 1) s)))))
/-- HexTemplates$Editor.takeOut(LHexTemplates$Reader;III)V -/
def zf_13 (x0 : Nat) (x1 : Nat) (x2 : Int) (x3 : Int) (x4 : Int) (s : zS) : zR := (zf_13_9 xfu x0 x1 x2 x3 x4 x1 0 s)
/-- HexTemplates.remove(II)I -/
def zf_125 (x0 : Nat) (x1 : Int) (x2 : Int) (s : zS) : zR := zC (zf_135 x0 x1 s) fun _ s2 => zC (zf_86 0 x1 s2) fun v5 s4 => zg (v5 - 1) (zC (zf_137 x0 x2 (v5 - 1) s4) fun _ s8 => zC (zf_10 0 1 s8) fun _ s10 => zn x1 200 (zg ((s10.1 194 0 x1) + x2) (zC (zf_13 0 0 x1 ((s10.1 194 0 x1) + x2) 1 s10) fun _ s13 => zC (zf_140 x0 s13) fun v16 s15 => zi v16 s15)))
def zf_8_2 : Nat → Nat → Int → Int → Int → zS → zR
  | 0, _, _, _, _, _ => none
  | n + 1, x0, x1, x2, x3, s => zg (x1 + x2) (if (x1 + x2) ≤ x3 then (zi 0 s) else (zC (zf_2 x0 x3 s) fun v4 s3 => zg (x3 + x2) (zC (zf_3 x0 (x3 + x2) v4 s3) fun _ s7 => zg (x3 + 1) ((zf_8_2 n x0 x1 x2 (x3 + 1) s7)))))
/-- HexTemplates$Bytes.repeat(II)V -/
def zf_8 (x0 : Nat) (x1 : Int) (x2 : Int) (s : zS) : zR := (zf_8_2 xfu x0 x1 x2 x1 s)
def zf_33_31 : Nat → Nat → Int → Int → Int → zS → zR
  | 0, _, _, _, _, _ => none
  | n + 1, x0, x1, x3, x4, s => if (s.1 199 x0 0) ≤ x4 then (zi (-1) s) else (zn x4 200 (if (s.1 197 x0 x4) = x1 then (if x3 = 0 then (zi x4 s) else (zg (x3 + (-1)) (zg (x4 + 1) ((zf_33_31 n x0 x1 (x3 + (-1)) (x4 + 1) s))))) else (zg (x4 + 1) ((zf_33_31 n x0 x1 x3 (x4 + 1) s)))))
/-- HexTemplates$Nodes.elementAt(II)I -/
def zf_33 (x0 : Nat) (x1 : Int) (x2 : Int) (s : zS) : zR := zC (zf_27 x0 x1 s) fun v3 s2 => if v3 = 0 then (zi (-1) s2) else (zn x1 200 (if (s2.1 192 x0 x1) = 1 then (if 0 ≤ x2 then (zg (x1 + 1) ((zf_33_31 xfu x0 x1 x2 (x1 + 1) s2))) else (zi (-1) s2)) else (zi (-1) s2)))
def zf_126_139 (x0 : Nat) (s : zS) : zR := zC (zf_140 x0 s) fun v3 s2 => zi v3 s2
def zf_126_31 (x0 : Nat) (x1 : Int) (x3 : Int) (x4 : Int) (s0 : Nat) (s1 : Int) (s : zS) : zR := zC (zf_138 s0 s1 s) fun _ s2 => zn x4 200 (zn x4 200 (zC (zf_10 0 1 s2) fun _ s4 => if x3 = 0 then (zC (zf_13 0 0 x1 (s2.1 194 0 x4) (s2.1 195 0 x4) s4) fun _ s6 => (zf_126_139 x0 s6)) else (zg ((s2.1 194 0 x4) + (s2.1 195 0 x4)) (zC (zf_12 0 0 x1 ((s2.1 194 0 x4) + (s2.1 195 0 x4)) (s2.1 195 0 x4) s4) fun v10 s9 => zC (zf_138 x0 v10 s9) fun _ s12 => zC (zf_8 2 (s2.1 194 0 x4) (s2.1 195 0 x4) s12) fun _ s14 => (zf_126_139 x0 s14)))))
/-- HexTemplates.element(IIZ)I -/
def zf_126 (x0 : Nat) (x1 : Int) (x2 : Int) (x3 : Int) (s : zS) : zR := zC (zf_135 x0 x1 s) fun _ s2 => zC (zf_33 0 x1 x2 s2) fun v5 s4 => if v5 = (-1) then ((zf_126_31 x0 x1 x3 v5 x0 0 s4)) else ((zf_126_31 x0 x1 x3 v5 x0 1 s4))
/-- HexTemplates.repair()I -/
def zf_127 (x0 : Nat) (s : zS) : zR := zC (zf_133 x0 s) fun _ s2 => zC (zf_10 0 1 s2) fun _ s4 => zC (zf_140 x0 s4) fun v7 s6 => zi v7 s6
def zf_91_48 (s0 : Nat) (s1 : Int) (s2 : Int) (s3 : Int) (s : zS) : zR := zCh (zf_126 s0 s1 s2 s3 s) (fun v3 s2 => zi v3 s2) fun e s5 => match e with | 0 => some (.inr 0, s5) | 1 => zi (-1003) s5 | 2 => zi (-1001) s5 | e + 3 => some (.inr (e + 3), s5)
/-- HexTemplatesLaw.calls(LHexTemplates;IIII)I -/
def zf_91 (x0 : Nat) (x1 : Int) (x2 : Int) (x3 : Int) (x4 : Int) (s : zS) : zR := if x1 = 0 then (zCh (zf_124 x0 x2 x3 x4 s) (fun v18 s17 => zi v18 s17) fun e s20 => match e with | 0 => some (.inr 0, s20) | 1 => zi (-1003) s20 | 2 => zi (-1001) s20 | e + 3 => some (.inr (e + 3), s20)) else (if x1 = 1 then (zCh (zf_125 x0 x2 x3 s) (fun v13 s12 => zi v13 s12) fun e s15 => match e with | 0 => some (.inr 0, s15) | 1 => zi (-1003) s15 | 2 => zi (-1001) s15 | e + 3 => some (.inr (e + 3), s15)) else (if x1 = 2 then (if x4 = 1 then ((zf_91_48 x0 x2 x3 1 s)) else ((zf_91_48 x0 x2 x3 0 s))) else (if x1 = 3 then (zCh (zf_123 x0 x2 x3 s) (fun v8 s7 => zi v8 s7) fun e s10 => match e with | 0 => some (.inr 0, s10) | 1 => zi (-1003) s10 | 2 => zi (-1001) s10 | e + 3 => some (.inr (e + 3), s10)) else (zCh (zf_127 x0 s) (fun v3 s2 => zi v3 s2) fun e s5 => match e with | 0 => some (.inr 0, s5) | 1 => zi (-1003) s5 | 2 => zi (-1001) s5 | e + 3 => some (.inr (e + 3), s5)))))
/-- HexTemplates$Bytes.append(I)V -/
def zf_4 (x0 : Nat) (x1 : Int) (s : zS) : zR := if ((zlB x0 : Nat) : Int) ≤ (s.1 1 x0 0) then (zi 0 s) else (zW 0 x0 (zlB x0) (s.1 1 x0 0) x1 s fun s2 => zg ((s2.1 1 x0 0) + 1) (zP 1 x0 0 ((s2.1 1 x0 0) + 1) s2 fun s4 => zi 0 s4))
def zf_105_49 : Nat → Nat → Int64 → Int → Int → zS → zR
  | 0, _, _, _, _, _ => none
  | n + 1, x0, x1, x3, x4, s => if x3 ≤ x4 then (zi (s.1 1 0 0) s) else (zg (8 * x4) (zC (zf_4 0 (zand ((x1.toUInt64 >>> ((Int32.ofInt (8 * x4)).toInt64.toUInt64 &&& Int64.toUInt64 63)).toInt64).toInt32.toInt 255) s) fun _ s3 => zg (x4 + 1) ((zf_105_49 n x0 x1 x3 (x4 + 1) s3))))
/-- HexTemplates.feed(JI)I -/
def zf_105 (x0 : Nat) (x1 : Int64) (x3 : Int) (s : zS) : zR := if x3 < 1 then (zt 0 s) else (if x3 ≤ 8 then (zg ((s.1 1 0 0) + x3) (if ((s.1 1 0 0) + x3) ≤ 200 then ((zf_105_49 xfu x0 x1 x3 0 s)) else (zt 1 s))) else (zt 0 s))
def zf_92_86 (zk3 : Nat → Int → Int → Int → Int → Int → Int → Int → Int → Int → zS → zR) (x0 : Nat) (x1 : Int) (x2 : Int) (x3 : Int) (x4 : Int) (x5 : Int) (x6 : Int) (x7 : Int) (x8 : Int) (x9 : Int) (s0 : Int) (s : zS) : zR := if s0 ≤ 0 then (zg (x9 + 1) ((zk3 x0 x1 x2 x3 x4 x5 x6 x7 x8 (x9 + 1) s))) else (zC (zf_105 x0 (Int32.ofInt s0).toInt64 1 s) fun v4 s3 => zg (x9 + 1) ((zk3 x0 x1 x2 x3 x4 x5 x6 x7 x8 (x9 + 1) s3)))
def zf_92_3 : Nat → Nat → Int → Int → Int → Int → Int → Int → Int → Int → Int → zS → zR
  | 0, _, _, _, _, _, _, _, _, _, _, _ => none
  | n + 1, x0, x1, x2, x3, x4, x5, x6, x7, x8, x9, s => if 8 ≤ x9 then (zi 0 s) else (if x9 = 0 then ((zf_92_86 (fun y0 y1 y2 y3 y4 y5 y6 y7 y8 y9 y => (zf_92_3 n y0 y1 y2 y3 y4 y5 y6 y7 y8 y9 y)) x0 x1 x2 x3 x4 x5 x6 x7 x8 x9 x1 s)) else (if x9 = 1 then ((zf_92_86 (fun y0 y1 y2 y3 y4 y5 y6 y7 y8 y9 y => (zf_92_3 n y0 y1 y2 y3 y4 y5 y6 y7 y8 y9 y)) x0 x1 x2 x3 x4 x5 x6 x7 x8 x9 x2 s)) else (if x9 = 2 then ((zf_92_86 (fun y0 y1 y2 y3 y4 y5 y6 y7 y8 y9 y => (zf_92_3 n y0 y1 y2 y3 y4 y5 y6 y7 y8 y9 y)) x0 x1 x2 x3 x4 x5 x6 x7 x8 x9 x3 s)) else (if x9 = 3 then ((zf_92_86 (fun y0 y1 y2 y3 y4 y5 y6 y7 y8 y9 y => (zf_92_3 n y0 y1 y2 y3 y4 y5 y6 y7 y8 y9 y)) x0 x1 x2 x3 x4 x5 x6 x7 x8 x9 x4 s)) else (if x9 = 4 then ((zf_92_86 (fun y0 y1 y2 y3 y4 y5 y6 y7 y8 y9 y => (zf_92_3 n y0 y1 y2 y3 y4 y5 y6 y7 y8 y9 y)) x0 x1 x2 x3 x4 x5 x6 x7 x8 x9 x5 s)) else (if x9 = 5 then ((zf_92_86 (fun y0 y1 y2 y3 y4 y5 y6 y7 y8 y9 y => (zf_92_3 n y0 y1 y2 y3 y4 y5 y6 y7 y8 y9 y)) x0 x1 x2 x3 x4 x5 x6 x7 x8 x9 x6 s)) else (if x9 = 6 then ((zf_92_86 (fun y0 y1 y2 y3 y4 y5 y6 y7 y8 y9 y => (zf_92_3 n y0 y1 y2 y3 y4 y5 y6 y7 y8 y9 y)) x0 x1 x2 x3 x4 x5 x6 x7 x8 x9 x7 s)) else ((zf_92_86 (fun y0 y1 y2 y3 y4 y5 y6 y7 y8 y9 y => (zf_92_3 n y0 y1 y2 y3 y4 y5 y6 y7 y8 y9 y)) x0 x1 x2 x3 x4 x5 x6 x7 x8 x9 x8 s)))))))))
/-- HexTemplatesLaw.puts(LHexTemplates;IIIIIIII)V -/
def zf_92 (x0 : Nat) (x1 : Int) (x2 : Int) (x3 : Int) (x4 : Int) (x5 : Int) (x6 : Int) (x7 : Int) (x8 : Int) (s : zS) : zR := (zf_92_3 xfu x0 x1 x2 x3 x4 x5 x6 x7 x8 0 s)
def zf_106_44 (x0 : Nat) (x1 : Int) (s : zS) : zR := zP 1 0 0 0 s fun s2 => if x1 = 0 then (zt 1 s2) else (zC (zf_131 x0 s2) fun v5 s4 => zi v5 s4)
def zf_106_28 (x0 : Nat) (s0 : Int) (s : zS) : zR := if s0 = 0 then ((zf_106_44 x0 s0 s)) else (zC (zf_5 1 0 s) fun _ s2 => (zf_106_44 x0 s0 s2))
/-- HexTemplates.give()I -/
def zf_106 (x0 : Nat) (s : zS) : zR := if 160 < (s.1 1 0 0) then ((zf_106_28 x0 0 s)) else (zC (zf_88 0 s) fun v3 s2 => if v3 = 0 then ((zf_106_28 x0 1 s2)) else ((zf_106_28 x0 0 s2)))
/-- HexTemplates$Parser.advance()V -/
def zf_38 (x0 : Nat) (s : zS) : zR := zg ((s.1 258 x0 0) + 1) (zP 258 x0 0 ((s.1 258 x0 0) + 1) s fun s2 => if (s2.1 258 x0 0) < 0 then (zP 259 x0 0 (-1) s2 fun s5 => zi 0 s5) else (zB (s2.1 256 x0 0) fun b6 => if (s2.1 1 b6 0) ≤ (s2.1 258 x0 0) then (zP 259 x0 0 (-1) s2 fun s9 => zi 0 s9) else (zB (s2.1 256 x0 0) fun b10 => zn (s2.1 258 x0 0) (zlB b10) (zP 259 x0 0 (s2.1 0 b10 (s2.1 258 x0 0)) s2 fun s13 => zi 0 s13))))
/-- HexTemplates$Template.clear()V -/
def zf_96 (x0 : Nat) (s : zS) : zR := zP 449 x0 0 0 s fun s2 => zP 450 x0 0 0 s2 fun s4 => zP 451 x0 0 0 s4 fun s6 => zi 0 s6
/-- HexTemplates$Parser.begin(LHexTemplates$Bytes;LHexTemplates$Template;)V -/
def zf_37 (x0 : Nat) (x1 : Nat) (x2 : Int) (s : zS) : zR := zP 256 x0 0 ((x1 : Nat) + 1 : Int) s fun s2 => zP 257 x0 0 x2 s2 fun s4 => zO (s4.1 257 x0 0) s4 fun q5 => zC (zf_96 q5 s4) fun _ s10 => zP 261 x0 0 0 s10 fun s12 => zP 258 x0 0 (-1) s12 fun s14 => zC (zf_38 x0 s14) fun _ s16 => zi 0 s16
/-- HexTemplates$Parser.accept(I)Z -/
def zf_39 (x0 : Nat) (x1 : Int) (s : zS) : zR := if (s.1 259 x0 0) = x1 then (zC (zf_38 x0 s) fun _ s2 => zz 1 s2) else (zz 0 s)
/-- HexTemplates$Parser.isName()Z -/
def zf_40 (x0 : Nat) (s : zS) : zR := if (s.1 259 x0 0) < 65 then (zz 0 s) else (if 90 < (s.1 259 x0 0) then (zz 0 s) else (if (s.1 259 x0 0) = 87 then (zz 0 s) else (zz 1 s)))
def zf_97_2 : Nat → Nat → Int → Int → zS → zR
  | 0, _, _, _, _ => none
  | n + 1, x0, x1, x2, s => if (s.1 449 x0 0) ≤ x2 then (zi (-1) s) else (zn x2 6 (if (s.1 452 x0 x2) = x1 then (zi x2 s) else (zg (x2 + 1) ((zf_97_2 n x0 x1 (x2 + 1) s)))))
/-- HexTemplates$Template.structureNamed(I)I -/
def zf_97 (x0 : Nat) (x1 : Int) (s : zS) : zR := (zf_97_2 xfu x0 x1 0 s)
/-- HexTemplates$Parser.openStructure(I)Z -/
def zf_42 (x0 : Nat) (x1 : Int) (s : zS) : zR := zC (zf_40 x0 s) fun v3 s2 => if v3 = 0 then (zz 0 s2) else (zO (s2.1 257 x0 0) s2 fun q4 => zg ((s2.1 259 x0 0) - 65) (zC (zf_97 q4 ((s2.1 259 x0 0) - 65) s2) fun v11 s10 => if v11 = (-1) then (zP 260 x0 0 x1 s10 fun s13 => zO (s13.1 257 x0 0) s13 fun q14 => zg ((s13.1 259 x0 0) - 65) (zW 452 q14 6 x1 ((s13.1 259 x0 0) - 65) s13 fun s20 => zO (s20.1 257 x0 0) s20 fun q21 => zW 453 q21 6 x1 0 s20 fun s26 => zO (s26.1 257 x0 0) s26 fun q27 => zg ((s26.1 449 q27 0) + 1) (zP 449 q27 0 ((s26.1 449 q27 0) + 1) s26 fun s32 => zC (zf_38 x0 s32) fun _ s35 => zC (zf_39 x0 123 s35) fun v38 s37 => zz v38 s37))) else (zz 0 s10)))
def zf_98_2 : Nat → Nat → Int → Int → Int → zS → zR
  | 0, _, _, _, _, _ => none
  | n + 1, x0, x1, x2, x3, s => zn x1 6 (if (s.1 453 x0 x1) ≤ x3 then (zi (-1) s) else (zg (x1 * 8) (zg ((x1 * 8) + x3) (zn ((x1 * 8) + x3) 48 (if (s.1 457 x0 ((x1 * 8) + x3)) = x2 then (zi x3 s) else (zg (x3 + 1) ((zf_98_2 n x0 x1 x2 (x3 + 1) s))))))))
/-- HexTemplates$Template.placeOf(II)I -/
def zf_98 (x0 : Nat) (x1 : Int) (x2 : Int) (s : zS) : zR := (zf_98_2 xfu x0 x1 x2 0 s)
/-- HexTemplates$Parser.resolveRelation(I)Z -/
def zf_45 (x0 : Nat) (x1 : Int) (s : zS) : zR := zO (s.1 257 x0 0) s fun q1 => zg ((s.1 260 x0 0) * 8) (zg (((s.1 260 x0 0) * 8) + x1) (zn (((s.1 260 x0 0) * 8) + x1) 48 (if (s.1 467 q1 (((s.1 260 x0 0) * 8) + x1)) = 0 then (zz 1 s) else (if (s.1 467 q1 (((s.1 260 x0 0) * 8) + x1)) = 61 then (zz 1 s) else (zO (s.1 257 x0 0) s fun q7 => zn (((s.1 260 x0 0) * 8) + x1) 48 (zO (s.1 257 x0 0) s fun q11 => zC (zf_98 q11 (s.1 260 x0 0) (s.1 468 q7 (((s.1 260 x0 0) * 8) + x1)) s) fun v17 s16 => if v17 = (-1) then (zz 0 s16) else (if v17 = x1 then (zz 0 s16) else (zO (s16.1 257 x0 0) s16 fun q18 => zg ((s16.1 260 x0 0) * 8) (zg (((s16.1 260 x0 0) * 8) + v17) (zW 468 q18 48 (((s.1 260 x0 0) * 8) + x1) (((s16.1 260 x0 0) * 8) + v17) s16 fun s25 => if (s.1 467 q1 (((s.1 260 x0 0) * 8) + x1)) = 37 then (zO (s25.1 257 x0 0) s25 fun q26 => zg ((s25.1 260 x0 0) * 8) (zg (((s25.1 260 x0 0) * 8) + v17) (zn (((s25.1 260 x0 0) * 8) + v17) 48 (if (s25.1 458 q26 (((s25.1 260 x0 0) * 8) + v17)) = 91 then (zz 1 s25) else (zz 0 s25))))) else (zz 1 s25)))))))))))
def zf_43_2 : Nat → Nat → Int → zS → zR
  | 0, _, _, _ => none
  | n + 1, x0, x1, s => zO (s.1 257 x0 0) s fun q1 => zn (s.1 260 x0 0) 6 (if (s.1 453 q1 (s.1 260 x0 0)) ≤ x1 then (if (s.1 261 x0 0) = 0 then (zC (zf_39 x0 125 s) fun v7 s6 => if v7 = 0 then (zz 0 s6) else (zz 1 s6)) else (zz 0 s)) else (zC (zf_45 x0 x1 s) fun v10 s9 => if v10 = 0 then (zz 0 s9) else (zg (x1 + 1) ((zf_43_2 n x0 (x1 + 1) s9)))))
/-- HexTemplates$Parser.closeStructure()Z -/
def zf_43 (x0 : Nat) (s : zS) : zR := (zf_43_2 xfu x0 0 s)
def zf_44_2 : Nat → Nat → Int → zS → zR
  | 0, _, _, _ => none
  | n + 1, x0, x1, s => zO (s.1 257 x0 0) s fun q1 => if (s.1 451 q1 0) ≤ x1 then (zz 1 s) else (zO (s.1 257 x0 0) s fun q5 => zO (s.1 257 x0 0) s fun q9 => zn x1 100 (zO (s.1 257 x0 0) s fun q13 => zC (zf_97 q13 (s.1 456 q9 x1) s) fun v19 s18 => zW 456 q5 100 x1 v19 s18 fun s21 => zO (s21.1 257 x0 0) s21 fun q22 => zn x1 100 (if (s21.1 456 q22 x1) = (-1) then (zz 0 s21) else (zg (x1 + 1) ((zf_44_2 n x0 (x1 + 1) s21))))))
/-- HexTemplates$Parser.resolveChoices()Z -/
def zf_44 (x0 : Nat) (s : zS) : zR := (zf_44_2 xfu x0 0 s)
/-- HexTemplates$Template.addChoice(I)Z -/
def zf_103 (x0 : Nat) (x1 : Int) (s : zS) : zR := if (s.1 451 x0 0) < 100 then (zW 456 x0 100 (s.1 451 x0 0) x1 s fun s2 => zg ((s2.1 451 x0 0) + 1) (zP 451 x0 0 ((s2.1 451 x0 0) + 1) s2 fun s4 => zz 1 s4)) else (zz 0 s)
/-- HexTemplates$Parser.parseChoice()Z -/
def zf_48 (x0 : Nat) (s : zS) : zR := zC (zf_40 x0 s) fun v3 s2 => if v3 = 0 then (zz 0 s2) else (zO (s2.1 257 x0 0) s2 fun q4 => zg ((s2.1 259 x0 0) - 65) (zC (zf_103 q4 ((s2.1 259 x0 0) - 65) s2) fun v11 s10 => if v11 = 0 then (zz 0 s10) else (zC (zf_38 x0 s10) fun _ s13 => zz 1 s13)))
def zf_49_80 (x0 : Nat) (s0 : Nat) (s1 : Int) (s : zS) : zR := zP 261 s0 0 s1 s fun s2 => zC (zf_38 x0 s2) fun _ s4 => zz 1 s4
/-- HexTemplates$Parser.parseBits(I)Z -/
def zf_49 (x0 : Nat) (x1 : Int) (s : zS) : zR := zg ((s.1 259 x0 0) - 48) (if ((s.1 259 x0 0) - 48) < 1 then (zz 0 s) else (zg (8 - (s.1 261 x0 0)) (if ((s.1 259 x0 0) - 48) ≤ (8 - (s.1 261 x0 0)) then (zg ((s.1 261 x0 0) + ((s.1 259 x0 0) - 48)) (zP 261 x0 0 ((s.1 261 x0 0) + ((s.1 259 x0 0) - 48)) s fun s4 => zO (s4.1 257 x0 0) s4 fun q6 => zW 459 q6 48 x1 ((s.1 259 x0 0) - 48) s4 fun s11 => zO (s11.1 257 x0 0) s11 fun q12 => zg (8 - (s11.1 261 x0 0)) (zW 460 q12 48 x1 (8 - (s11.1 261 x0 0)) s11 fun s18 => if (s18.1 261 x0 0) = 8 then ((zf_49_80 x0 x0 0 s18)) else ((zf_49_80 x0 x0 (s18.1 261 x0 0) s18))))) else (zz 0 s))))
def zf_50_61 (x0 : Nat) (x1 : Int) (s : zS) : zR := zO (s.1 257 x0 0) s fun q1 => zO (s.1 257 x0 0) s fun q5 => zW 464 q1 48 x1 (s.1 451 q5 0) s fun s10 => zz 1 s10
def zf_50_27 : Nat → Nat → Int → Int → zS → zR
  | 0, _, _, _, _ => none
  | n + 1, x0, x1, x2, s => if 100 ≤ x2 then ((zf_50_61 x0 x1 s)) else (if (s.1 259 x0 0) = 124 then (zC (zf_38 x0 s) fun _ s2 => zC (zf_48 x0 s2) fun v5 s4 => if v5 = 0 then (zz 0 s4) else (zg (x2 + 1) ((zf_50_27 n x0 x1 (x2 + 1) s4)))) else ((zf_50_61 x0 x1 s)))
/-- HexTemplates$Parser.parseNames(I)Z -/
def zf_50 (x0 : Nat) (x1 : Int) (s : zS) : zR := zO (s.1 257 x0 0) s fun q1 => zO (s.1 257 x0 0) s fun q5 => zW 463 q1 48 x1 (s.1 451 q5 0) s fun s10 => zC (zf_48 x0 s10) fun v13 s12 => if v13 = 0 then (zz 0 s12) else ((zf_50_27 xfu x0 x1 0 s12))
/-- HexTemplates$Parser.isDigit()Z -/
def zf_41 (x0 : Nat) (s : zS) : zR := if (s.1 259 x0 0) < 48 then (zz 0 s) else (if 57 < (s.1 259 x0 0) then (zz 0 s) else (zz 1 s))
def zf_53_4 : Nat → Nat → Int → Int → zS → zR
  | 0, _, _, _, _ => none
  | n + 1, x0, x1, x2, s => if 3 ≤ x2 then (zi x1 s) else (zC (zf_41 x0 s) fun v3 s2 => if v3 = 0 then (zi x1 s2) else (zC (zf_22 x1 0 s2) fun v6 s5 => zC (zf_38 x0 s5) fun _ s8 => zg (v6 * 10) (zg ((v6 * 10) + (s5.1 259 x0 0)) (zg (((v6 * 10) + (s5.1 259 x0 0)) - 48) (zg (x2 + 1) ((zf_53_4 n x0 (((v6 * 10) + (s5.1 259 x0 0)) - 48) (x2 + 1) s8)))))))
/-- HexTemplates$Parser.parseInt()I -/
def zf_53 (x0 : Nat) (s : zS) : zR := (zf_53_4 xfu x0 (-1) 0 s)
/-- HexTemplates$Template.isRelatable(I)Z -/
def zf_101 (x0 : Nat) (x1 : Int) (s : zS) : zR := zn x1 48 (if (s.1 458 x0 x1) = 98 then (zz 1 s) else (if (s.1 458 x0 x1) = 119 then (zz 1 s) else (if (s.1 458 x0 x1) = 87 then (zz 1 s) else (zz 0 s))))
/-- HexTemplates$Template.isNumeric(I)Z -/
def zf_99 (x0 : Nat) (x1 : Int) (s : zS) : zR := zn x1 48 (zC (zf_101 x0 x1 s) fun v3 s2 => if v3 = 0 then (if (s.1 458 x0 x1) = 114 then (zz 1 s2) else (if (s.1 458 x0 x1) = 110 then (zz 1 s2) else (zz 0 s2))) else (zz 1 s2))
/-- HexTemplates$Template.addTerm(II)Z -/
def zf_102 (x0 : Nat) (x1 : Int) (x2 : Int) (s : zS) : zR := if (s.1 450 x0 0) < 100 then (zW 455 x0 100 (s.1 450 x0 0) x1 s fun s2 => zW 454 x0 100 (s2.1 450 x0 0) x2 s2 fun s4 => zg ((s4.1 450 x0 0) + 1) (zP 450 x0 0 ((s4.1 450 x0 0) + 1) s4 fun s6 => zz 1 s6)) else (zz 0 s)
def zf_52_179 (zk21 : Nat → Int → Int → Int → zS → zR) (x0 : Nat) (x1 : Int) (x3 : Int) (s : zS) : zR := zC (zf_38 x0 s) fun _ s2 => zg (x3 + 1) ((zk21 x0 x1 (s.1 259 x0 0) (x3 + 1) s2))
def zf_52_119 (zk21 : Nat → Int → Int → Int → zS → zR) (x0 : Nat) (x1 : Int) (x2 : Int) (x3 : Int) (x5 : Int) (s : zS) : zR := zO (s.1 257 x0 0) s fun q1 => zC (zf_102 q1 x2 x5 s) fun v7 s6 => if v7 = 0 then (zz 0 s6) else (zO (s6.1 257 x0 0) s6 fun q8 => zO (s6.1 257 x0 0) s6 fun q12 => zW 462 q8 48 x1 (s6.1 450 q12 0) s6 fun s17 => if (s17.1 259 x0 0) = 43 then ((zf_52_179 zk21 x0 x1 x3 s17)) else (if (s17.1 259 x0 0) = 45 then ((zf_52_179 zk21 x0 x1 x3 s17)) else (if (s17.1 259 x0 0) = 42 then ((zf_52_179 zk21 x0 x1 x3 s17)) else (zz 1 s17))))
def zf_52_93 (zk21 : Nat → Int → Int → Int → zS → zR) (x0 : Nat) (x1 : Int) (x2 : Int) (x3 : Int) (x4 : Int) (s : zS) : zR := zC (zf_41 x0 s) fun v3 s2 => if v3 = 0 then (zC (zf_38 x0 s2) fun _ s5 => zg ((-1) - x4) ((zf_52_119 zk21 x0 x1 x2 x3 ((-1) - x4) s5))) else (zC (zf_53 x0 s2) fun v9 s8 => (zf_52_119 zk21 x0 x1 x2 x3 v9 s8))
def zf_52_56 (zk21 : Nat → Int → Int → Int → zS → zR) (x0 : Nat) (x1 : Int) (x2 : Int) (x3 : Int) (s0 : Int) (s : zS) : zR := zC (zf_41 x0 s) fun v3 s2 => if v3 = 0 then (if s0 = (-1) then (zz 0 s2) else (zO (s2.1 257 x0 0) s2 fun q4 => zg ((s2.1 260 x0 0) * 8) (zg (((s2.1 260 x0 0) * 8) + s0) (zC (zf_99 q4 (((s2.1 260 x0 0) * 8) + s0) s2) fun v12 s11 => if v12 = 0 then (zz 0 s11) else ((zf_52_93 zk21 x0 x1 x2 x3 s0 s11)))))) else ((zf_52_93 zk21 x0 x1 x2 x3 s0 s2))
def zf_52_21 : Nat → Nat → Int → Int → Int → zS → zR
  | 0, _, _, _, _, _ => none
  | n + 1, x0, x1, x2, x3, s => if 100 ≤ x3 then (zz 0 s) else (zC (zf_41 x0 s) fun v3 s2 => if v3 = 0 then (zO (s2.1 257 x0 0) s2 fun q4 => zg ((s2.1 259 x0 0) - 97) (zC (zf_98 q4 (s2.1 260 x0 0) ((s2.1 259 x0 0) - 97) s2) fun v11 s10 => (zf_52_56 (fun y0 y1 y2 y3 y => (zf_52_21 n y0 y1 y2 y3 y)) x0 x1 x2 x3 v11 s10))) else ((zf_52_56 (fun y0 y1 y2 y3 y => (zf_52_21 n y0 y1 y2 y3 y)) x0 x1 x2 x3 (-1) s2)))
/-- HexTemplates$Parser.parseSum(I)Z -/
def zf_52 (x0 : Nat) (x1 : Int) (s : zS) : zR := zO (s.1 257 x0 0) s fun q1 => zO (s.1 257 x0 0) s fun q5 => zW 461 q1 48 x1 (s.1 450 q5 0) s fun s10 => (zf_52_21 xfu x0 x1 43 0 s10)
def zf_51_70 (x0 : Nat) (x1 : Int) (s : zS) : zR := zO (s.1 257 x0 0) s fun q1 => zn x1 48 (if (s.1 465 q1 x1) = 42 then (zC (zf_39 x0 93 s) fun v33 s32 => zz v33 s32) else (zO (s.1 257 x0 0) s fun q5 => zn x1 48 (if (s.1 465 q5 x1) = 33 then (zO (s.1 257 x0 0) s fun q15 => zC (zf_53 x0 s) fun v21 s20 => zW 466 q15 48 x1 v21 s20 fun s23 => zO (s23.1 257 x0 0) s23 fun q24 => zn x1 48 (if (s23.1 466 q24 x1) = (-1) then (zz 0 s23) else (zC (zf_39 x0 93 s23) fun v30 s29 => if v30 = 0 then (zz 0 s29) else (zz 1 s29)))) else (zC (zf_52 x0 x1 s) fun v11 s10 => if v11 = 0 then (zz 0 s10) else (zC (zf_39 x0 93 s10) fun v14 s13 => if v14 = 0 then (zz 0 s13) else (zz 1 s13))))))
def zf_51_53 (x0 : Nat) (x1 : Int) (s : zS) : zR := zO (s.1 257 x0 0) s fun q1 => zW 465 q1 48 x1 (s.1 259 x0 0) s fun s6 => zC (zf_38 x0 s6) fun _ s8 => (zf_51_70 x0 x1 s8)
/-- HexTemplates$Parser.parseCount(I)Z -/
def zf_51 (x0 : Nat) (x1 : Int) (s : zS) : zR := zO (s.1 257 x0 0) s fun q1 => zW 458 q1 48 x1 91 s fun s6 => zO (s6.1 257 x0 0) s6 fun q7 => zW 465 q7 48 x1 43 s6 fun s12 => zC (zf_38 x0 s12) fun _ s14 => if (s14.1 259 x0 0) = 42 then ((zf_51_53 x0 x1 s14)) else (if (s14.1 259 x0 0) = 33 then ((zf_51_53 x0 x1 s14)) else (if (s14.1 259 x0 0) = 63 then ((zf_51_53 x0 x1 s14)) else ((zf_51_70 x0 x1 s14))))
def zf_47_106 (x0 : Nat) (x1 : Int) (x2 : Int) (s0 : Nat) (s1 : Int) (s2 : Int) (s : zS) : zR := zW 459 s0 48 s1 s2 s fun s2 => zC (zf_38 x0 s2) fun _ s4 => if x2 = 87 then (zz 1 s4) else (if x2 = 98 then (zz 1 s4) else (if x2 = 110 then (zC (zf_49 x0 x1 s4) fun v40 s39 => zz v40 s39) else (if x2 = 114 then (zO (s4.1 257 x0 0) s4 fun q14 => zO (s4.1 257 x0 0) s4 fun q18 => zW 463 q14 48 x1 (s4.1 451 q18 0) s4 fun s23 => zO (s23.1 257 x0 0) s23 fun q24 => zO (s23.1 257 x0 0) s23 fun q28 => zg ((s23.1 451 q28 0) + 1) (zW 464 q24 48 x1 ((s23.1 451 q28 0) + 1) s23 fun s34 => zC (zf_48 x0 s34) fun v37 s36 => zz v37 s36)) else (if x2 = 115 then (zC (zf_39 x0 40 s4) fun v7 s6 => if v7 = 0 then (zz 0 s6) else (zC (zf_52 x0 x1 s6) fun v10 s9 => if v10 = 0 then (zz 0 s9) else (zC (zf_39 x0 41 s9) fun v13 s12 => if v13 = 0 then (zz 0 s12) else (zz 1 s12)))) else (if x2 = 119 then (zz 1 s4) else (if x2 = 122 then (zz 1 s4) else (zz 0 s4)))))))
def zf_47_20 (x0 : Nat) (x1 : Int) (x2 : Int) (s : zS) : zR := zC (zf_40 x0 s) fun v3 s2 => if v3 = 0 then (zO (s2.1 257 x0 0) s2 fun q4 => zW 458 q4 48 x1 x2 s2 fun s9 => zO (s9.1 257 x0 0) s9 fun q10 => if x2 = 119 then ((zf_47_106 x0 x1 x2 q10 x1 16 s9)) else (if x2 = 87 then ((zf_47_106 x0 x1 x2 q10 x1 16 s9)) else ((zf_47_106 x0 x1 x2 q10 x1 8 s9)))) else (zO (s2.1 257 x0 0) s2 fun q14 => zW 458 q14 48 x1 65 s2 fun s19 => zC (zf_50 x0 x1 s19) fun v22 s21 => if v22 = 0 then (zz 0 s21) else (if (s21.1 259 x0 0) = 91 then (zC (zf_51 x0 x1 s21) fun v25 s24 => if v25 = 0 then (zz 0 s24) else (zz 1 s24)) else (zz 1 s21)))
/-- HexTemplates$Parser.parseType(I)Z -/
def zf_47 (x0 : Nat) (x1 : Int) (s : zS) : zR := if (s.1 259 x0 0) = 110 then ((zf_47_20 x0 x1 (s.1 259 x0 0) s)) else (if (s.1 261 x0 0) = 0 then ((zf_47_20 x0 x1 (s.1 259 x0 0) s)) else (zz 0 s))
def zf_54_88 (x0 : Nat) (x1 : Int) (s : zS) : zR := zO (s.1 257 x0 0) s fun q1 => zW 467 q1 48 x1 (s.1 259 x0 0) s fun s6 => zC (zf_38 x0 s6) fun _ s8 => zO (s8.1 257 x0 0) s8 fun q9 => zg ((s8.1 259 x0 0) - 97) (zW 468 q9 48 x1 ((s8.1 259 x0 0) - 97) s8 fun s15 => zC (zf_38 x0 s15) fun _ s17 => zz 1 s17)
/-- HexTemplates$Parser.parseRelation(I)Z -/
def zf_54 (x0 : Nat) (x1 : Int) (s : zS) : zR := zO (s.1 257 x0 0) s fun q1 => zC (zf_101 q1 x1 s) fun v7 s6 => if v7 = 0 then (zz 0 s6) else (zC (zf_38 x0 s6) fun _ s9 => zC (zf_41 x0 s9) fun v12 s11 => if v12 = 0 then (if (s11.1 259 x0 0) = 35 then ((zf_54_88 x0 x1 s11)) else (if (s11.1 259 x0 0) = 37 then ((zf_54_88 x0 x1 s11)) else (if (s11.1 259 x0 0) = 43 then ((zf_54_88 x0 x1 s11)) else (if (s11.1 259 x0 0) = 94 then ((zf_54_88 x0 x1 s11)) else (zz 0 s11))))) else (zO (s11.1 257 x0 0) s11 fun q13 => zW 467 q13 48 x1 61 s11 fun s18 => zO (s18.1 257 x0 0) s18 fun q19 => zC (zf_53 x0 s18) fun v25 s24 => zW 468 q19 48 x1 v25 s24 fun s27 => zz 1 s27))
def zf_46_98 (x0 : Nat) (s : zS) : zR := zO (s.1 257 x0 0) s fun q1 => zn (s.1 260 x0 0) 6 (zg ((s.1 453 q1 (s.1 260 x0 0)) + 1) (zW 453 q1 6 (s.1 260 x0 0) ((s.1 453 q1 (s.1 260 x0 0)) + 1) s fun s7 => zC (zf_39 x0 59 s7) fun v10 s9 => zz v10 s9))
/-- HexTemplates$Parser.parseField(I)Z -/
def zf_46 (x0 : Nat) (x1 : Int) (s : zS) : zR := zg ((s.1 259 x0 0) - 97) (if ((s.1 259 x0 0) - 97) < 0 then (zz 0 s) else (if 26 ≤ ((s.1 259 x0 0) - 97) then (zz 0 s) else (zO (s.1 257 x0 0) s fun q2 => zC (zf_98 q2 (s.1 260 x0 0) ((s.1 259 x0 0) - 97) s) fun v8 s7 => if v8 = (-1) then (zC (zf_38 x0 s7) fun _ s10 => zC (zf_39 x0 58 s10) fun v13 s12 => if v13 = 0 then (zz 0 s12) else (zC (zf_47 x0 x1 s12) fun v16 s15 => if v16 = 0 then (zz 0 s15) else (zO (s15.1 257 x0 0) s15 fun q17 => zW 457 q17 48 x1 ((s.1 259 x0 0) - 97) s15 fun s22 => zO (s22.1 257 x0 0) s22 fun q23 => zW 467 q23 48 x1 0 s22 fun s28 => if (s28.1 259 x0 0) = 61 then (zC (zf_54 x0 x1 s28) fun v31 s30 => if v31 = 0 then (zz 0 s30) else ((zf_46_98 x0 s30))) else ((zf_46_98 x0 s28))))) else (zz 0 s7))))
def zf_36_73 (zk8 : Nat → Int → zS → zR) (x0 : Nat) (x3 : Int) (s : zS) : zR := zC (zf_43 x0 s) fun v3 s2 => if v3 = 0 then (zz 0 s2) else (zg (x3 + 1) ((zk8 x0 (x3 + 1) s2)))
def zf_36_35 (zk8 : Nat → Int → zS → zR) : Nat → Nat → Int → Int → zS → zR
  | 0, _, _, _, _ => none
  | n + 1, x0, x3, x4, s => if 8 ≤ x4 then ((zf_36_73 zk8 x0 x3 s)) else (if (s.1 259 x0 0) = 125 then ((zf_36_73 zk8 x0 x3 s)) else (zg (x3 * 8) (zg ((x3 * 8) + x4) (zC (zf_46 x0 ((x3 * 8) + x4) s) fun v5 s4 => if v5 = 0 then (zz 0 s4) else (zg (x4 + 1) ((zf_36_35 zk8 n x0 x3 (x4 + 1) s4)))))))
def zf_36_88 (x0 : Nat) (s : zS) : zR := if (s.1 259 x0 0) = (-1) then (zO (s.1 257 x0 0) s fun q1 => if (s.1 449 q1 0) ≤ 0 then (zz 0 s) else (zC (zf_44 x0 s) fun v7 s6 => if v7 = 0 then (zz 0 s6) else (zz 1 s6))) else (zz 0 s)
def zf_36_8 : Nat → Nat → Int → zS → zR
  | 0, _, _, _ => none
  | n + 1, x0, x3, s => if 6 ≤ x3 then ((zf_36_88 x0 s)) else (if (s.1 259 x0 0) = (-1) then ((zf_36_88 x0 s)) else (zC (zf_42 x0 x3 s) fun v3 s2 => if v3 = 0 then (zz 0 s2) else ((zf_36_35 (fun y0 y1 y => (zf_36_8 n y0 y1 y)) xfu x0 x3 0 s2))))
/-- HexTemplates$Parser.parse(LHexTemplates$Bytes;LHexTemplates$Template;)Z -/
def zf_36 (x0 : Nat) (x1 : Nat) (x2 : Int) (s : zS) : zR := zC (zf_37 x0 x1 x2 s) fun _ s2 => (zf_36_8 xfu x0 0 s2)
def zf_130_38 (x0 : Nat) (s : zS) : zR := zn (s.1 522 x0 0) 4 (zi (s.1 515 x0 (s.1 522 x0 0)) s)
def zf_107_49 (x0 : Nat) (x1 : Int) (x2 : Int) (s0 : Int) (s : zS) : zR := zP 1 0 0 0 s fun s2 => if s0 = 0 then (zt 1 s2) else (zO x2 s2 fun q3 => zP 448 q3 0 x1 s2 fun s8 => zP 523 x0 0 (-3) s8 fun s10 => zg ((s10.1 522 x0 0) + 1) (zP 522 x0 0 ((s10.1 522 x0 0) + 1) s10 fun s12 => zg ((s12.1 522 x0 0) - 1) (zi ((s12.1 522 x0 0) - 1) s12)))
/-- a template more, all of it 0 -/
def zmk (s : zS) : zS := (fun f n i => if (448 ≤ f ∧ f < 512) ∧ n = s.2.1 then 0 else s.1 f n i, s.2.1 + 1, s.2.2)
/-- HexTemplates.nextTemplate() -/
def zf_130 (x0 : Nat) (s : zS) : zR := if (s.1 522 x0 0) < 4 then zn (s.1 522 x0 0) 4 (if s.1 515 x0 (s.1 522 x0 0) = 0 then (if s.2.1 < 4 then zW 515 x0 4 (s.1 522 x0 0) ((s.2.1 : Int) + 1) (zmk s) fun s1 => zf_130_38 x0 s1 else none) else zf_130_38 x0 s) else zi 0 s
/-- HexTemplates.template(I)I -/
def zf_107 (x0 : Nat) (x1 : Int) (s : zS) : zR := if x1 < 0 then (zt 0 s) else (if x1 ≤ 9 then (zC (zf_130 x0 s) fun v3 s2 => zIf v3 s2 ((zf_107_49 x0 x1 0 0 s2)) fun q4 => zC (zf_36 0 0 ((q4 : Int) + 1) s2) fun v10 s9 => if v10 = 0 then ((zf_107_49 x0 x1 ((q4 : Int) + 1) 0 s9)) else ((zf_107_49 x0 x1 ((q4 : Int) + 1) 1 s9))) else (zt 0 s))
/-- HexTemplatesLaw.atArray([I)I -/
def zf_94 (x0 : Nat) (s : zS) : zR := zn 0 4 (zg (3 + (s.1 578 x0 0)) (zi (3 + (s.1 578 x0 0)) s))
def zf_111_8 : Nat → Int → Nat → Int → Int → zS → zR
  | 0, _, _, _, _, _ => none
  | n + 1, x0, x1, x3, x4, s => if x0 ≤ x4 then (zi x3 s) else (zg (56 + x4) (zn (56 + x4) 64 (zg (1 + (s.1 577 x1 (56 + x4))) (zg (x3 + (1 + (s.1 577 x1 (56 + x4)))) (zg (x4 + 1) ((zf_111_8 n x0 x1 (x3 + (1 + (s.1 577 x1 (56 + x4)))) (x4 + 1) s)))))))
/-- HexTemplatesLaw.atElement(I[I[I)I -/
def zf_111 (x0 : Int) (x1 : Nat) (x2 : Nat) (s : zS) : zR := zC (zf_94 x2 s) fun v3 s2 => (zf_111_8 xfu x0 x1 v3 0 s2)
def zf_112_171 (zk88 : Int → Nat → Nat → Int → Int → Int → Int → zS → zR) : Nat → Int → Nat → Nat → Int → Int → Int → Int → Int → zS → zR
  | 0, _, _, _, _, _, _, _, _, _ => none
  | n + 1, x0, x2, x3, x4, x5, x6, x7, x9, s => zg (56 + x7) (zn (56 + x7) 64 (if (s.1 577 x2 (56 + x7)) ≤ x9 then (zg (x7 + 1) ((zk88 x0 x2 x3 x4 x5 x6 (x7 + 1) s))) else (zg (8 * x7) (zg ((8 * x7) + x9) (zn ((8 * x7) + x9) 64 (zg (x9 + 1) ((zf_112_171 zk88 n x0 x2 x3 x4 x5 (zxor x6 (s.1 577 x2 ((8 * x7) + x9))) x7 (x9 + 1) s))))))))
def zf_112_156 (zk88 : Int → Nat → Nat → Int → Int → Int → Int → zS → zR) (x0 : Int) (x2 : Nat) (x3 : Nat) (x4 : Int) (x5 : Int) (x6 : Int) (x7 : Int) (s : zS) : zR := zg (56 + x7) (zn (56 + x7) 64 ((zf_112_171 zk88 xfu x0 x2 x3 x4 x5 (zxor x6 (s.1 577 x2 (56 + x7))) x7 0 s)))
def zf_112_88 : Nat → Int → Nat → Nat → Int → Int → Int → Int → zS → zR
  | 0, _, _, _, _, _, _, _, _ => none
  | n + 1, x0, x2, x3, x4, x5, x6, x7, s => zn 1 4 (if (s.1 578 x3 1) ≤ x7 then (if x0 = x4 then (zi (zand x5 255) s) else (zg (x4 + 1) (if x0 = (x4 + 1) then (zi x6 s) else (zg (x4 + 2) (if x0 = (x4 + 2) then (zn 2 4 (zi (s.1 578 x3 2) s)) else (zg (200 + x0) (zg ((200 + x0) - x4) (zg (((200 + x0) - x4) - 3) (zi (((200 + x0) - x4) - 3) s))))))))) else (zC (zf_111 x7 x2 x3 s) fun v8 s7 => if x0 < v8 then ((zf_112_156 (fun y0 y1 y2 y3 y4 y5 y6 y => (zf_112_88 n y0 y1 y2 y3 y4 y5 y6 y)) x0 x2 x3 x4 x5 x6 x7 s7)) else (zg (56 + x7) (zn (56 + x7) 64 (zg (v8 + (s7.1 577 x2 (56 + x7))) (if (v8 + (s7.1 577 x2 (56 + x7))) < x0 then ((zf_112_156 (fun y0 y1 y2 y3 y4 y5 y6 y => (zf_112_88 n y0 y1 y2 y3 y4 y5 y6 y)) x0 x2 x3 x4 x5 x6 x7 s7)) else (if x0 = v8 then (zn (56 + x7) 64 (zi (s7.1 577 x2 (56 + x7)) s7)) else (zg (8 * x7) (zg ((8 * x7) + x0) (zg (((8 * x7) + x0) - v8) (zg ((((8 * x7) + x0) - v8) - 1) (zn ((((8 * x7) + x0) - v8) - 1) 64 (zi (s7.1 577 x2 ((((8 * x7) + x0) - v8) - 1)) s7)))))))))))))
def zf_112_62 : Nat → Int → Nat → Nat → Nat → Int → Int → Int → Int → zS → zR
  | 0, _, _, _, _, _, _, _, _, _ => none
  | n + 1, x0, x1, x2, x3, x4, x5, x6, x7, s => zn 0 4 (if (s.1 578 x3 0) ≤ x7 then ((zf_112_88 xfu x0 x2 x3 x4 x5 x6 0 s)) else (zn x7 21 (zg (x5 + (s.1 576 x1 x7)) (zg (x7 + 1) ((zf_112_62 n x0 x1 x2 x3 x4 (x5 + (s.1 576 x1 x7)) x6 (x7 + 1) s))))))
/-- HexTemplatesLaw.byteAt(I[I[I[I)I -/
def zf_112 (x0 : Int) (x1 : Nat) (x2 : Nat) (x3 : Nat) (s : zS) : zR := zn 1 4 (zC (zf_111 (s.1 578 x3 1) x2 x3 s) fun v3 s2 => if 3 ≤ x0 then (zC (zf_94 x3 s2) fun v6 s5 => if v6 ≤ x0 then ((zf_112_62 xfu x0 x1 x2 x3 v3 0 0 0 s5)) else (zg (x0 - 3) (zn (x0 - 3) 21 (zi (s5.1 576 x1 (x0 - 3)) s5)))) else (if x0 = 0 then (zi 77 s2) else (if x0 = 1 then (zn 0 4 (zi (s2.1 578 x3 0) s2)) else (zn 1 4 (zi (s2.1 578 x3 1) s2)))))
/-- HexTemplates.size()I -/
def zf_108 (x0 : Nat) (s : zS) : zR := zi (s.1 1 1 0) s
/-- HexTemplates.byteAt(I)I -/
def zf_109 (x0 : Nat) (x1 : Int) (s : zS) : zR := if x1 < 0 then (zt 2 s) else (if x1 < (s.1 1 1 0) then (zC (zf_2 1 x1 s) fun v3 s2 => zi v3 s2) else (zt 2 s))
/-- HexTemplates.state()I -/
def zf_110 (x0 : Nat) (s : zS) : zR := zi (s.1 388 0 0) s
/-- HexTemplates.chosen()I -/
def zf_113 (x0 : Nat) (s : zS) : zR := zC (zf_133 x0 s) fun _ s2 => zi (s2.1 523 x0 0) s2
/-- HexTemplates.fault(IZ)I -/
def zf_114 (x0 : Nat) (x1 : Int) (x2 : Int) (s : zS) : zR := if x1 < 0 then (zt 2 s) else (if x1 < (s.1 522 x0 0) then (zn x1 4 (zC (zf_56 1 (s.1 515 x0 x1) 1 0 0 s) fun v3 s2 => if x2 = 0 then (zi (s2.1 325 1 0) s2) else (zi (s2.1 326 1 0) s2))) else (zt 2 s))
/-- HexTemplates.nodes()I -/
def zf_115 (x0 : Nat) (s : zS) : zR := zC (zf_133 x0 s) fun _ s2 => zi (s2.1 199 0 0) s2
/-- HexTemplates.wrong()I -/
def zf_117 (x0 : Nat) (s : zS) : zR := zC (zf_133 x0 s) fun _ s2 => zC (zf_80 0 s2) fun v5 s4 => zi v5 s4
/-- HexTemplates.wrongByAll()I -/
def zf_118 (x0 : Nat) (s : zS) : zR := zC (zf_133 x0 s) fun _ s2 => zC (zf_132 x0 s2) fun v5 s4 => zC (zf_56 1 v5 1 0 0 s4) fun v8 s7 => if v8 = 0 then (zi 0 s7) else (zi (s7.1 327 1 0) s7)
/-- HexTemplates$Reader.structureTold(I)I -/
def zf_82 (x0 : Nat) (x1 : Int) (s : zS) : zR := if x1 < 0 then (zi (-1) s) else (if x1 < 48 then (zO (s.1 321 x0 0) s fun q1 => zO (s.1 321 x0 0) s fun q5 => zn x1 48 (zn (s.1 463 q5 x1) 100 (zi (s.1 456 q1 (s.1 463 q5 x1)) s))) else (zi (-1) s))
/-- HexTemplates.checkReference(I)V -/
def zf_136 (x0 : Nat) (x1 : Int) (s : zS) : zR := zn x1 200 (if (s.1 192 0 x1) = 3 then (zi 0 s) else (zt 1 s))
/-- HexTemplates.follow(I)I -/
def zf_119 (x0 : Nat) (x1 : Int) (s : zS) : zR := zC (zf_135 x0 x1 s) fun _ s2 => zC (zf_136 x0 x1 s2) fun _ s4 => zC (zf_132 x0 s4) fun v7 s6 => zn x1 200 (zC (zf_82 0 (s6.1 198 0 x1) s6) fun v10 s9 => zn x1 200 (zC (zf_56 1 v7 1 v10 (s9.1 196 0 x1) s9) fun v13 s12 => if v13 = 0 then (zi (-1) s12) else (zg ((s12.1 323 1 0) - (s9.1 196 0 x1)) (zi ((s12.1 323 1 0) - (s9.1 196 0 x1)) s12))))
def zf_32_4 : Nat → Nat → Int → Int → zS → zR
  | 0, _, _, _, _ => none
  | n + 1, x0, x1, x2, s => if (s.1 199 x0 0) ≤ x2 then (zi (-1) s) else (zn x2 200 (if (s.1 197 x0 x2) = x1 then (zn x2 200 (if (s.1 192 x0 x2) = 3 then (zi x2 s) else (zg (x2 + 1) ((zf_32_4 n x0 x1 (x2 + 1) s))))) else (zg (x2 + 1) ((zf_32_4 n x0 x1 (x2 + 1) s)))))
/-- HexTemplates$Nodes.firstReferenceIn(I)I -/
def zf_32 (x0 : Nat) (x1 : Int) (s : zS) : zR := zg (x1 + 1) ((zf_32_4 xfu x0 x1 (x1 + 1) s))
def zf_141_2 : Nat → Nat → Int → zS → zR
  | 0, _, _, _ => none
  | n + 1, x0, x1, s => if (1536 : Int) ≤ x1 then (zi 0 s) else (zWz 521 x0 1536 x1 0 s fun s2 => zg (x1 + 1) ((zf_141_2 n x0 (x1 + 1) s2)))
/-- HexTemplates.forgetVisits()V -/
def zf_141 (x0 : Nat) (s : zS) : zR := (zf_141_2 xfu x0 0 s)
/-- HexTemplates.isVisited(II)Z -/
def zf_142 (x0 : Nat) (x1 : Int) (x2 : Int) (s : zS) : zR := zg (x1 * 256) (zg ((x1 * 256) + x2) (if ((x1 * 256) + x2) < 0 then (zz 0 s) else (if ((x1 * 256) + x2) < (1536 : Int) then (zn ((x1 * 256) + x2) 1536 (zWz 521 x0 1536 ((x1 * 256) + x2) 1 s fun s4 => zz (s.1 521 x0 ((x1 * 256) + x2)) s4)) else (zz 0 s))))
def zf_120_59 : Nat → Nat → Int → Int → Int → Int → Int → zS → zR
  | 0, _, _, _, _, _, _, _ => none
  | n + 1, x0, x2, x3, x4, x5, x6, s => if (1536 : Int) ≤ x6 then (zi (-2) s) else (zC (zf_142 x0 x3 x4 s) fun v3 s2 => if v3 = 0 then (zC (zf_56 1 x2 1 x3 x4 s2) fun v6 s5 => if v6 = 0 then (zi x5 s5) else (zC (zf_32 1 0 s5) fun v9 s8 => if v9 = (-1) then (zg (x5 + 1) (zi (x5 + 1) s8)) else (zn v9 200 (zC (zf_82 1 (s8.1 198 1 v9) s8) fun v12 s11 => zn v9 200 (zg (x5 + 1) (zg (x6 + 1) ((zf_120_59 n x0 x2 v12 (s11.1 196 1 v9) (x5 + 1) (x6 + 1) s11)))))))) else (zi (-2) s2))
/-- HexTemplates.chain(I)I -/
def zf_120 (x0 : Nat) (x1 : Int) (s : zS) : zR := zC (zf_135 x0 x1 s) fun _ s2 => zC (zf_136 x0 x1 s2) fun _ s4 => zC (zf_132 x0 s4) fun v7 s6 => zn x1 200 (zC (zf_82 0 (s6.1 198 0 x1) s6) fun v10 s9 => zn x1 200 (zC (zf_141 x0 s9) fun _ s12 => (zf_120_59 xfu x0 v7 v10 (s9.1 196 0 x1) 0 0 s12)))
def zf_121_46 : Nat → Nat → Int → Int → Int → zS → zR
  | 0, _, _, _, _, _ => none
  | n + 1, x0, x1, x2, x4, s => if (s.1 1 1 0) ≤ x4 then (zi (-1) s) else (zC (zf_2 1 x4 s) fun v3 s2 => if (zand v3 x2) = (zand x1 x2) then (zi x4 s2) else (zg (x4 + 1) ((zf_121_46 n x0 x1 x2 (x4 + 1) s2))))
/-- HexTemplates.find(III)I -/
def zf_121 (x0 : Nat) (x1 : Int) (x2 : Int) (x3 : Int) (s : zS) : zR := if x1 < 0 then (zt 0 s) else (if 255 < x1 then (zt 0 s) else (if x2 < 0 then (zt 0 s) else (if 255 < x2 then (zt 0 s) else (if x3 < 0 then (zt 0 s) else (if x3 ≤ 200 then ((zf_121_46 xfu x0 x1 x2 x3 s)) else (zt 0 s))))))
def zf_122_57 : Nat → Int → Int → Nat → Int → zS → zR
  | 0, _, _, _, _, _ => none
  | n + 1, x1, x2, x4, x5, s => if (s.1 199 x4 0) ≤ x5 then (zi (-1) s) else (zC (zf_30 x4 x5 s) fun v3 s2 => if v3 = 0 then (zg (x5 + 1) ((zf_122_57 n x1 x2 x4 (x5 + 1) s2))) else (zn x5 200 (if (s2.1 193 x4 x5) = x1 then (zn x5 200 (if (s2.1 196 x4 x5) = x2 then (zi x5 s2) else (zg (x5 + 1) ((zf_122_57 n x1 x2 x4 (x5 + 1) s2))))) else (zg (x5 + 1) ((zf_122_57 n x1 x2 x4 (x5 + 1) s2))))))
/-- HexTemplates.findField(III)I -/
def zf_122 (x0 : Nat) (x1 : Int) (x2 : Int) (x3 : Int) (s : zS) : zR := if x1 < 0 then (zt 0 s) else (if 26 ≤ x1 then (zt 0 s) else (if x2 < 0 then (zt 0 s) else (if 65535 < x2 then (zt 0 s) else (if x3 < 0 then (zt 0 s) else (if x3 ≤ 200 then (zC (zf_133 x0 s) fun _ s2 => (zf_122_57 xfu x1 x2 0 x3 s2)) else (zt 0 s))))))
/-- HexTemplates$Reader.holds(I)Z -/
def zf_79 (x0 : Nat) (x1 : Int) (s : zS) : zR := zn x1 200 (zC (zf_78 x0 x1 s) fun v3 s2 => if (s.1 196 x0 x1) = v3 then (zz 1 s2) else (zz 0 s2))
/-- HexTemplates.node(II)I -/
def zf_116 (x0 : Nat) (x1 : Int) (x2 : Int) (s : zS) : zR := zC (zf_135 x0 x1 s) fun _ s2 => if x2 < 0 then (zt 0 s2) else (if x2 ≤ 6 then (if x2 = 0 then (zn x1 200 (zi (s2.1 192 0 x1) s2)) else (if x2 = 1 then (zn x1 200 (zi (s2.1 193 0 x1) s2)) else (if x2 = 2 then (zn x1 200 (zi (s2.1 194 0 x1) s2)) else (if x2 = 3 then (zn x1 200 (zi (s2.1 195 0 x1) s2)) else (if x2 = 4 then (zn x1 200 (zi (s2.1 196 0 x1) s2)) else (if x2 = 5 then (zn x1 200 (zi (s2.1 197 0 x1) s2)) else (zC (zf_79 0 x1 s2) fun v5 s4 => if v5 = 0 then (zi 0 s4) else (zi 1 s4)))))))) else (zt 0 s2))
/-- HexTemplatesLaw.node(LHexTemplates;IIIIIII)Z -/
def zf_128 (x0 : Nat) (x1 : Int) (x2 : Int) (x3 : Int) (x4 : Int) (x5 : Int) (x6 : Int) (x7 : Int) (s : zS) : zR := zC (zf_116 x0 x1 0 s) fun v3 s2 => if v3 = x2 then (zC (zf_116 x0 x1 1 s2) fun v6 s5 => if v6 = x3 then (zC (zf_116 x0 x1 2 s5) fun v9 s8 => if v9 = x4 then (zC (zf_116 x0 x1 3 s8) fun v12 s11 => if v12 = x5 then (zC (zf_116 x0 x1 4 s11) fun v15 s14 => if v15 = x6 then (zC (zf_116 x0 x1 5 s14) fun v18 s17 => if v18 = x7 then (zC (zf_116 x0 x1 6 s17) fun v21 s20 => if v21 = 1 then (zz 1 s20) else (zz 0 s20)) else (zz 0 s17)) else (zz 0 s14)) else (zz 0 s11)) else (zz 0 s8)) else (zz 0 s5)) else (zz 0 s2)
def zf_129_500 (zk381 : Nat → Int → Nat → Nat → Nat → Int → Int → Int → Int → zS → zR) (x0 : Nat) (x1 : Int) (x2 : Nat) (x3 : Nat) (x4 : Nat) (x6 : Int) (x8 : Int) (x9 : Int) (s0 : Nat) (s1 : Int) (s2 : Int) (s3 : Int) (s4 : Int) (s5 : Int) (s6 : Int) (s : zS) : zR := zg (3 * x9) (zg (6 + (3 * x9)) (zC (zf_128 s0 s1 s2 s3 s4 s5 s6 (6 + (3 * x9)) s) fun v5 s4 => if v5 = 0 then (zg (x9 + 1) ((zk381 x0 x1 x2 x3 x4 x6 0 x8 (x9 + 1) s4))) else (zg (x9 + 1) ((zk381 x0 x1 x2 x3 x4 x6 1 x8 (x9 + 1) s4)))))
def zf_129_679 : Nat → Nat → Nat → Nat → Nat → Int → Int → Int → Int → Int → Int → Int → zS → zR
  | 0, _, _, _, _, _, _, _, _, _, _, _, _ => none
  | n + 1, x0, x2, x3, x4, x7, x8, x11, x12, x13, x14, x15, s => if x15 < x13 then (if x7 = 0 then (zz 0 s) else (zC (zf_121 x0 x11 x12 x13 s) fun v3 s2 => if v3 = x14 then (zn 2 4 (zC (zf_122 x0 17 (s2.1 578 x4 2) 0 s2) fun v6 s5 => zg (x8 + 2) (if v6 = (x8 + 2) then (zz 1 s5) else (zz 0 s5)))) else (zz 0 s2))) else (zC (zf_112 x15 x2 x3 x4 s) fun v10 s9 => if (zand v10 x12) = (zand x11 x12) then (zg (x15 + (-1)) ((zf_129_679 n x0 x2 x3 x4 x7 x8 x11 x12 x13 x15 (x15 + (-1)) s9))) else (zg (x15 + (-1)) ((zf_129_679 n x0 x2 x3 x4 x7 x8 x11 x12 x13 x14 (x15 + (-1)) s9))))
def zf_129_637 (x0 : Nat) (x1 : Int) (x2 : Nat) (x3 : Nat) (x4 : Nat) (x6 : Int) (x8 : Int) (s0 : Int) (s : zS) : zR := zC (zf_90 x1 256 s) fun v3 s2 => zC (zf_90 (zshr x1 8) 256 s2) fun v6 s5 => zC (zf_90 (zshr x1 4) 60 s5) fun v9 s8 => zg (x6 - 1) ((zf_129_679 xfu x0 x2 x3 x4 s0 x8 v3 v6 v9 (-1) (x6 - 1) s8))
def zf_129_629 (x0 : Nat) (x1 : Int) (x2 : Nat) (x3 : Nat) (x4 : Nat) (x6 : Int) (x8 : Int) (s0 : Int) (s1 : Int) (s : zS) : zR := if s0 = s1 then ((zf_129_637 x0 x1 x2 x3 x4 x6 x8 1 s)) else ((zf_129_637 x0 x1 x2 x3 x4 x6 x8 0 s))
def zf_129_608 (x0 : Nat) (x1 : Int) (x2 : Nat) (x3 : Nat) (x4 : Nat) (x6 : Int) (x8 : Int) (x10 : Int) (s0 : Int) (s1 : Int) (s : zS) : zR := if s0 = s1 then (zg (x8 + 2) (zC (zf_120 x0 (x8 + 2) s) fun v4 s3 => if x10 = 0 then ((zf_129_629 x0 x1 x2 x3 x4 x6 x8 v4 0 s3)) else ((zf_129_629 x0 x1 x2 x3 x4 x6 x8 v4 1 s3)))) else ((zf_129_637 x0 x1 x2 x3 x4 x6 x8 0 s))
def zf_129_580 (x0 : Nat) (x1 : Int) (x2 : Nat) (x3 : Nat) (x4 : Nat) (x6 : Int) (x7 : Int) (x8 : Int) (x9 : Int) (s0 : Int) (s : zS) : zR := if x7 = 0 then ((zf_129_637 x0 x1 x2 x3 x4 x6 x8 0 s)) else (zg (x8 + 2) (zC (zf_119 x0 (x8 + 2) s) fun v4 s3 => if s0 = 0 then ((zf_129_608 x0 x1 x2 x3 x4 x6 x8 s0 v4 (-1) s3)) else (zg (1 + x9) ((zf_129_608 x0 x1 x2 x3 x4 x6 x8 s0 v4 (1 + x9) s3)))))
def zf_129_552 (x0 : Nat) (x1 : Int) (x2 : Nat) (x3 : Nat) (x4 : Nat) (x6 : Int) (x7 : Int) (x8 : Int) (s0 : Int) (s : zS) : zR := zn 2 4 (if x6 ≤ (s.1 578 x4 2) then ((zf_129_580 x0 x1 x2 x3 x4 x6 x7 x8 s0 0 s)) else (zn 2 4 (zg ((s.1 578 x4 2) + s0) (if x6 ≤ ((s.1 578 x4 2) + s0) then ((zf_129_580 x0 x1 x2 x3 x4 x6 x7 x8 s0 0 s)) else ((zf_129_580 x0 x1 x2 x3 x4 x6 x7 x8 s0 1 s))))))
def zf_129_526 (x0 : Nat) (x1 : Int) (x2 : Nat) (x3 : Nat) (x4 : Nat) (x6 : Int) (x7 : Int) (x8 : Int) (s : zS) : zR := zn 2 4 (if x6 ≤ (s.1 578 x4 2) then ((zf_129_552 x0 x1 x2 x3 x4 x6 x7 x8 999 s)) else (zn 2 4 (zC (zf_112 (s.1 578 x4 2) x2 x3 x4 s) fun v3 s2 => (zf_129_552 x0 x1 x2 x3 x4 x6 x7 x8 v3 s2))))
def zf_129_381 : Nat → Nat → Int → Nat → Nat → Nat → Int → Int → Int → Int → zS → zR
  | 0, _, _, _, _, _, _, _, _, _, _ => none
  | n + 1, x0, x1, x2, x3, x4, x6, x7, x8, x9, s => zn 1 4 (if (s.1 578 x4 1) ≤ x9 then ((zf_129_526 x0 x1 x2 x3 x4 x6 x7 x8 s)) else (if x7 = 0 then ((zf_129_526 x0 x1 x2 x3 x4 x6 x7 x8 s)) else (zC (zf_111 x9 x3 x4 s) fun v3 s2 => zg (56 + x9) (zn (56 + x9) 64 (zg (3 * x9) (zg (6 + (3 * x9)) (zg (1 + (s2.1 577 x3 (56 + x9))) (zC (zf_128 x0 (6 + (3 * x9)) 0 1 v3 (1 + (s2.1 577 x3 (56 + x9))) 1 5 s2) fun v10 s9 => if v10 = 0 then (zg (x9 + 1) ((zf_129_381 n x0 x1 x2 x3 x4 x6 0 x8 (x9 + 1) s9))) else (zg (7 + (3 * x9)) (zC (zf_128 x0 (7 + (3 * x9)) 2 19 v3 1 (s2.1 577 x3 (56 + x9)) (6 + (3 * x9)) s9) fun v15 s14 => if v15 = 0 then (zg (x9 + 1) ((zf_129_381 n x0 x1 x2 x3 x4 x6 0 x8 (x9 + 1) s14))) else (if (s2.1 577 x3 (56 + x9)) = 0 then (zg (8 + (3 * x9)) (zg (v3 + 1) ((zf_129_500 (fun y0 y1 y2 y3 y4 y5 y6 y7 y8 y => (zf_129_381 n y0 y1 y2 y3 y4 y5 y6 y7 y8 y)) x0 x1 x2 x3 x4 x6 x8 x9 x0 (8 + (3 * x9)) 5 21 (v3 + 1) (s2.1 577 x3 (56 + x9)) (-1) s14)))) else (zg (8 * x9) (zn (8 * x9) 64 (zg (8 + (3 * x9)) (zg (v3 + 1) ((zf_129_500 (fun y0 y1 y2 y3 y4 y5 y6 y7 y8 y => (zf_129_381 n y0 y1 y2 y3 y4 y5 y6 y7 y8 y)) x0 x1 x2 x3 x4 x6 x8 x9 x0 (8 + (3 * x9)) 5 21 (v3 + 1) (s2.1 577 x3 (56 + x9)) (s14.1 577 x3 (8 * x9)) s14)))))))))))))))))
def zf_129_255 (x0 : Nat) (x1 : Int) (x2 : Nat) (x3 : Nat) (x4 : Nat) (x5 : Int) (x6 : Int) (x8 : Int) (s0 : Nat) (s1 : Int) (s2 : Int) (s3 : Int) (s4 : Int) (s5 : Int) (s6 : Int) (s : zS) : zR := zC (zf_128 s0 s1 s2 s3 s4 s5 s6 0 s) fun v3 s2 => if v3 = 0 then ((zf_129_381 xfu x0 x1 x2 x3 x4 x6 0 x8 0 s2)) else (zn 0 4 (zn 0 4 (zn 1 4 (zg (3 + (s2.1 578 x4 0)) (zg (x5 - 3) (zg ((x5 - 3) - (s2.1 578 x4 0)) (zC (zf_128 x0 5 1 4 (3 + (s2.1 578 x4 0)) ((x5 - 3) - (s2.1 578 x4 0)) (s2.1 578 x4 1) 0 s2) fun v9 s8 => if v9 = 0 then ((zf_129_381 xfu x0 x1 x2 x3 x4 x6 0 x8 0 s8)) else (zC (zf_112 x5 x2 x3 x4 s8) fun v12 s11 => zC (zf_128 x0 x8 2 2 x5 1 v12 0 s11) fun v15 s14 => if v15 = 0 then ((zf_129_381 xfu x0 x1 x2 x3 x4 x6 0 x8 0 s14)) else (zg (x5 + 1) (zC (zf_112 (x5 + 1) x2 x3 x4 s14) fun v19 s18 => zg (x8 + 1) (zC (zf_128 x0 (x8 + 1) 2 23 (x5 + 1) 1 v19 0 s18) fun v23 s22 => if v23 = 0 then ((zf_129_381 xfu x0 x1 x2 x3 x4 x6 0 x8 0 s22)) else (zn 2 4 (zg (x8 + 2) (zg (x5 + 2) (zC (zf_128 x0 (x8 + 2) 3 17 (x5 + 2) 1 (s22.1 578 x4 2) 0 s22) fun v28 s27 => if v28 = 0 then ((zf_129_381 xfu x0 x1 x2 x3 x4 x6 0 x8 0 s27)) else ((zf_129_381 xfu x0 x1 x2 x3 x4 x6 1 x8 0 s27)))))))))))))))))
def zf_129_147 (x0 : Nat) (x1 : Int) (x2 : Nat) (x3 : Nat) (x4 : Nat) (x5 : Int) (x6 : Int) (x7 : Int) (s : zS) : zR := zn 1 4 (if x7 = 0 then (zg (3 * (s.1 578 x4 1)) (zg (6 + (3 * (s.1 578 x4 1))) ((zf_129_381 xfu x0 x1 x2 x3 x4 x6 0 (6 + (3 * (s.1 578 x4 1))) 0 s)))) else (zg (x5 + 3) (zC (zf_128 x0 0 0 0 0 (x5 + 3) 0 (-1) s) fun v6 s5 => if v6 = 0 then (zg (3 * (s.1 578 x4 1)) (zg (6 + (3 * (s.1 578 x4 1))) ((zf_129_381 xfu x0 x1 x2 x3 x4 x6 0 (6 + (3 * (s.1 578 x4 1))) 0 s5)))) else (zC (zf_128 x0 1 2 12 0 1 77 0 s5) fun v11 s10 => if v11 = 0 then (zg (3 * (s.1 578 x4 1)) (zg (6 + (3 * (s.1 578 x4 1))) ((zf_129_381 xfu x0 x1 x2 x3 x4 x6 0 (6 + (3 * (s.1 578 x4 1))) 0 s10)))) else (zn 0 4 (zC (zf_128 x0 2 2 11 1 1 (s10.1 578 x4 0) 0 s10) fun v16 s15 => if v16 = 0 then (zg (3 * (s.1 578 x4 1)) (zg (6 + (3 * (s.1 578 x4 1))) ((zf_129_381 xfu x0 x1 x2 x3 x4 x6 0 (6 + (3 * (s.1 578 x4 1))) 0 s15)))) else (zn 1 4 (zC (zf_128 x0 3 2 13 2 1 (s15.1 578 x4 1) 0 s15) fun v21 s20 => if v21 = 0 then (zg (3 * (s.1 578 x4 1)) (zg (6 + (3 * (s.1 578 x4 1))) ((zf_129_381 xfu x0 x1 x2 x3 x4 x6 0 (6 + (3 * (s.1 578 x4 1))) 0 s20)))) else (zn 0 4 (zn 0 4 (if (s20.1 578 x4 0) = 0 then (zg (3 * (s.1 578 x4 1)) (zg (6 + (3 * (s.1 578 x4 1))) ((zf_129_255 x0 x1 x2 x3 x4 x5 x6 (6 + (3 * (s.1 578 x4 1))) x0 4 5 3 3 (s20.1 578 x4 0) (-1) s20)))) else (zn 0 21 (zg (3 * (s.1 578 x4 1)) (zg (6 + (3 * (s.1 578 x4 1))) ((zf_129_255 x0 x1 x2 x3 x4 x5 x6 (6 + (3 * (s.1 578 x4 1))) x0 4 5 3 3 (s20.1 578 x4 0) (s20.1 576 x2 0) s20))))))))))))))))
def zf_129_104 : Nat → Nat → Int → Nat → Nat → Nat → Int → Int → Int → Int → zS → zR
  | 0, _, _, _, _, _, _, _, _, _, _ => none
  | n + 1, x0, x1, x2, x3, x4, x5, x6, x7, x8, s => if x6 ≤ x8 then ((zf_129_147 x0 x1 x2 x3 x4 x5 x6 x7 s)) else (if x7 = 0 then ((zf_129_147 x0 x1 x2 x3 x4 x5 x6 x7 s)) else (zC (zf_109 x0 x8 s) fun v3 s2 => zC (zf_112 x8 x2 x3 x4 s2) fun v6 s5 => if v3 = v6 then (zg (x8 + 1) ((zf_129_104 n x0 x1 x2 x3 x4 x5 x6 1 (x8 + 1) s5))) else (zg (x8 + 1) ((zf_129_104 n x0 x1 x2 x3 x4 x5 x6 0 (x8 + 1) s5)))))
/-- HexTemplatesLaw.same(LHexTemplates;I[I[I[I)Z -/
def zf_129 (x0 : Nat) (x1 : Int) (x2 : Nat) (x3 : Nat) (x4 : Nat) (s : zS) : zR := zn 1 4 (zC (zf_111 (s.1 578 x4 1) x3 x4 s) fun v3 s2 => zC (zf_108 x0 s2) fun v6 s5 => zg (v3 + 5) (if v6 = (v3 + 5) then (zC (zf_110 x0 s5) fun v10 s9 => zn 3 4 (if v10 = (s9.1 578 x4 3) then (zC (zf_113 x0 s9) fun v13 s12 => if v13 = 0 then (zC (zf_114 x0 0 0 s12) fun v16 s15 => if v16 = 0 then (zC (zf_114 x0 0 1 s15) fun v19 s18 => if v19 = (-1) then (zC (zf_117 x0 s18) fun v22 s21 => if v22 = 0 then (zC (zf_118 x0 s21) fun v25 s24 => if v25 = 0 then (zC (zf_115 x0 s24) fun v28 s27 => zn 1 4 (zg (3 * (s27.1 578 x4 1)) (zg (9 + (3 * (s27.1 578 x4 1))) (if v28 = (9 + (3 * (s27.1 578 x4 1))) then ((zf_129_104 xfu x0 x1 x2 x3 x4 v3 (v3 + 5) 1 0 s27)) else ((zf_129_104 xfu x0 x1 x2 x3 x4 v3 (v3 + 5) 0 0 s27)))))) else ((zf_129_104 xfu x0 x1 x2 x3 x4 v3 (v3 + 5) 0 0 s24))) else ((zf_129_104 xfu x0 x1 x2 x3 x4 v3 (v3 + 5) 0 0 s21))) else ((zf_129_104 xfu x0 x1 x2 x3 x4 v3 (v3 + 5) 0 0 s18))) else ((zf_129_104 xfu x0 x1 x2 x3 x4 v3 (v3 + 5) 0 0 s15))) else ((zf_129_104 xfu x0 x1 x2 x3 x4 v3 (v3 + 5) 0 0 s12))) else ((zf_129_104 xfu x0 x1 x2 x3 x4 v3 (v3 + 5) 0 0 s9)))) else ((zf_129_104 xfu x0 x1 x2 x3 x4 v3 (v3 + 5) 0 0 s5))))
/-- HexTemplatesLaw.moved(IIZ[I)I -/
def zf_134 (x0 : Int) (x1 : Int) (x2 : Int) (x3 : Nat) (s : zS) : zR := if x2 = 0 then (zn 2 4 (zg (x0 + x1) (if (s.1 578 x3 2) < (x0 + x1) then (zn 2 4 (if (s.1 578 x3 2) ≤ x0 then (zn 2 4 (zi (s.1 578 x3 2) s)) else (zi x0 s))) else (zn 2 4 (zg ((s.1 578 x3 2) - x1) (zi ((s.1 578 x3 2) - x1) s)))))) else (zn 2 4 (if (s.1 578 x3 2) < x0 then (zn 2 4 (zi (s.1 578 x3 2) s)) else (zn 2 4 (zg ((s.1 578 x3 2) + x1) (zi ((s.1 578 x3 2) + x1) s)))))
def zf_143_479 (s0 : Int) (s1 : Int) (s : zS) : zR := if s0 = s1 then (zz 1 s) else (zz 0 s)
def zf_143_455 (x5 : Nat) (x9 : Int) (x10 : Int) (x11 : Int) (x12 : Int) (s0 : Nat) (s1 : Int) (s : zS) : zR := zC (zf_91 s0 s1 x9 x10 x11 s) fun v3 s2 => if x12 = 0 then ((zf_143_479 v3 (-1003) s2)) else (zn 3 4 ((zf_143_479 v3 (s2.1 578 x5 3) s2)))
def zf_143_445 (x0 : Nat) (x1 : Int) (x5 : Nat) (x9 : Int) (x10 : Int) (x11 : Int) (x12 : Int) (s : zS) : zR := if x1 = 0 then ((zf_143_455 x5 x9 x10 x11 x12 x0 1 s)) else ((zf_143_455 x5 x9 x10 x11 x12 x0 0 s))
def zf_143_431 (x0 : Nat) (x1 : Int) (x5 : Nat) (x9 : Int) (x10 : Int) (x11 : Int) (x12 : Int) (x13 : Int) (s : zS) : zR := zW 578 x5 4 2 x13 s fun s2 => zn 3 4 (zg ((s2.1 578 x5 3) + 1) (zW 578 x5 4 3 ((s2.1 578 x5 3) + 1) s2 fun s5 => (zf_143_445 x0 x1 x5 x9 x10 x11 x12 s5)))
def zf_143_366 (x0 : Nat) (x1 : Int) (x5 : Nat) (x9 : Int) (x10 : Int) (x11 : Int) (x12 : Int) (x13 : Int) (s0 : Nat) (s1 : Int) (s2 : Int) (s : zS) : zR := zW 576 s0 21 s1 s2 s fun s2 => zn 0 4 (if x1 = 0 then (zg ((s2.1 578 x5 0) + (-1)) (zW 578 x5 4 0 ((s2.1 578 x5 0) + (-1)) s2 fun s5 => (zf_143_431 x0 x1 x5 x9 x10 x11 x12 x13 s5))) else (zg ((s2.1 578 x5 0) + 1) (zW 578 x5 4 0 ((s2.1 578 x5 0) + 1) s2 fun s8 => (zf_143_431 x0 x1 x5 x9 x10 x11 x12 x13 s8))))
def zf_143_410 (x0 : Nat) (x1 : Int) (x4 : Nat) (x5 : Nat) (x6 : Int) (x9 : Int) (x10 : Int) (x11 : Int) (x12 : Int) (x13 : Int) (s0 : Nat) (s1 : Int) (s2 : Int) (s : zS) : zR := zW 577 s0 64 s1 s2 s fun s2 => zg (56 + x6) (zn (56 + x6) 64 (if x1 = 0 then (zg ((s2.1 577 x4 (56 + x6)) + (-1)) (zW 577 x4 64 (56 + x6) ((s2.1 577 x4 (56 + x6)) + (-1)) s2 fun s6 => (zf_143_431 x0 x1 x5 x9 x10 x11 x12 x13 s6))) else (zg ((s2.1 577 x4 (56 + x6)) + 1) (zW 577 x4 64 (56 + x6) ((s2.1 577 x4 (56 + x6)) + 1) s2 fun s9 => (zf_143_431 x0 x1 x5 x9 x10 x11 x12 x13 s9)))))
def zf_143_345 (x0 : Nat) (x1 : Int) (x3 : Nat) (x4 : Nat) (x5 : Nat) (x6 : Int) (x9 : Int) (x10 : Int) (x11 : Int) (x12 : Int) (x13 : Int) (x14 : Int) (s : zS) : zR := if 0 ≤ x6 then (if x1 = 0 then (zg (x14 + x10) (zn (x14 + x10) 64 ((zf_143_410 x0 x1 x4 x5 x6 x9 x10 x11 x12 x13 x4 (x14 + x10) (s.1 577 x4 (x14 + x10)) s)))) else (zg (x14 + x10) ((zf_143_410 x0 x1 x4 x5 x6 x9 x10 x11 x12 x13 x4 (x14 + x10) x11 s)))) else (if x1 = 0 then (zn x10 21 ((zf_143_366 x0 x1 x5 x9 x10 x11 x12 x13 x3 x10 (s.1 576 x3 x10) s))) else ((zf_143_366 x0 x1 x5 x9 x10 x11 x12 x13 x3 x10 x11 s)))
def zf_143_290 : Nat → Nat → Int → Nat → Nat → Nat → Int → Int → Int → Int → Int → Int → Int → Int → Int → zS → zR
  | 0, _, _, _, _, _, _, _, _, _, _, _, _, _, _, _ => none
  | n + 1, x0, x1, x3, x4, x5, x6, x7, x9, x10, x11, x12, x13, x14, x15, s => if x1 = 0 then (zg (x15 + 1) (if x7 ≤ (x15 + 1) then ((zf_143_345 x0 x1 x3 x4 x5 x6 x9 x10 x11 x12 x13 x14 s)) else (if 0 ≤ x6 then (zg (x14 + x15) (zg ((x14 + x15) + 1) (zn ((x14 + x15) + 1) 64 (zW 577 x4 64 (x14 + x15) (s.1 577 x4 ((x14 + x15) + 1)) s fun s5 => (zf_143_290 n x0 x1 x3 x4 x5 x6 x7 x9 x10 x11 x12 x13 x14 (x15 + 1) s5))))) else (zn (x15 + 1) 21 (zW 576 x3 21 x15 (s.1 576 x3 (x15 + 1)) s fun s7 => (zf_143_290 n x0 x1 x3 x4 x5 x6 x7 x9 x10 x11 x12 x13 x14 (x15 + 1) s7)))))) else ((zf_143_345 x0 x1 x3 x4 x5 x6 x9 x10 x11 x12 x13 x14 s))
def zf_143_233 : Nat → Nat → Int → Nat → Nat → Nat → Int → Int → Int → Int → Int → Int → Int → Int → Int → zS → zR
  | 0, _, _, _, _, _, _, _, _, _, _, _, _, _, _, _ => none
  | n + 1, x0, x1, x3, x4, x5, x6, x7, x9, x10, x11, x12, x13, x14, x15, s => if x1 = 0 then ((zf_143_290 xfu x0 x1 x3 x4 x5 x6 x7 x9 x10 x11 x12 x13 x14 x10 s)) else (if x15 ≤ x10 then ((zf_143_290 xfu x0 x1 x3 x4 x5 x6 x7 x9 x10 x11 x12 x13 x14 x10 s)) else (if 0 ≤ x6 then (zg (x14 + x15) (zg ((x14 + x15) - 1) (zn ((x14 + x15) - 1) 64 (zW 577 x4 64 (x14 + x15) (s.1 577 x4 ((x14 + x15) - 1)) s fun s4 => zg (x15 + (-1)) ((zf_143_233 n x0 x1 x3 x4 x5 x6 x7 x9 x10 x11 x12 x13 x14 (x15 + (-1)) s4)))))) else (zg (x15 - 1) (zn (x15 - 1) 21 (zW 576 x3 21 x15 (s.1 576 x3 (x15 - 1)) s fun s8 => zg (x15 + (-1)) ((zf_143_233 n x0 x1 x3 x4 x5 x6 x7 x9 x10 x11 x12 x13 x14 (x15 + (-1)) s8)))))))
def zf_143_215 (x0 : Nat) (x1 : Int) (x3 : Nat) (x4 : Nat) (x5 : Nat) (x6 : Int) (x7 : Int) (x9 : Int) (x10 : Int) (x11 : Int) (x13 : Int) (s0 : Int) (s : zS) : zR := if s0 = 0 then ((zf_143_445 x0 x1 x5 x9 x10 x11 s0 s)) else (zg (8 * x6) ((zf_143_233 xfu x0 x1 x3 x4 x5 x6 x7 x9 x10 x11 s0 x13 (8 * x6) x7 s)))
def zf_143_174 (x0 : Nat) (x1 : Int) (x3 : Nat) (x4 : Nat) (x5 : Nat) (x6 : Int) (x7 : Int) (x8 : Int) (x9 : Int) (x10 : Int) (x11 : Int) (x12 : Int) (s : zS) : zR := zg (x8 + x10) (zC (zf_134 (x8 + x10) 1 x1 x5 s) fun v4 s3 => if x12 = 0 then ((zf_143_215 x0 x1 x3 x4 x5 x6 x7 x9 x10 x11 v4 0 s3)) else (if 256 ≤ v4 then ((zf_143_215 x0 x1 x3 x4 x5 x6 x7 x9 x10 x11 v4 0 s3)) else (zn 3 4 (if 29 ≤ (s3.1 578 x5 3) then ((zf_143_215 x0 x1 x3 x4 x5 x6 x7 x9 x10 x11 v4 0 s3)) else ((zf_143_215 x0 x1 x3 x4 x5 x6 x7 x9 x10 x11 v4 1 s3))))))
def zf_143_169 (x0 : Nat) (x1 : Int) (x3 : Nat) (x4 : Nat) (x5 : Nat) (x6 : Int) (x7 : Int) (x8 : Int) (x9 : Int) (x10 : Int) (x11 : Int) (x12 : Int) (s0 : Int) (s1 : Int) (s : zS) : zR := if s0 = s1 then (zz 1 s) else ((zf_143_174 x0 x1 x3 x4 x5 x6 x7 x8 x9 x10 x11 x12 s))
def zf_143_149 (x0 : Nat) (x1 : Int) (x3 : Nat) (x4 : Nat) (x5 : Nat) (x6 : Int) (x7 : Int) (x8 : Int) (x9 : Int) (x10 : Int) (x11 : Int) (s0 : Int) (s : zS) : zR := if x1 = 0 then ((zf_143_174 x0 x1 x3 x4 x5 x6 x7 x8 x9 x10 x11 s0 s)) else (if 0 ≤ x6 then ((zf_143_169 x0 x1 x3 x4 x5 x6 x7 x8 x9 x10 x11 s0 x7 7 s)) else ((zf_143_169 x0 x1 x3 x4 x5 x6 x7 x8 x9 x10 x11 s0 x7 20 s)))
def zf_143_103 (x0 : Nat) (x1 : Int) (x2 : Int) (x3 : Nat) (x4 : Nat) (x5 : Nat) (x6 : Int) (x7 : Int) (x8 : Int) (x9 : Int) (s0 : Int) (s1 : Int) (s : zS) : zR := zC (zf_90 (zshr x2 6) 256 s) fun v3 s2 => zg (s0 - s1) (if (s0 - s1) < 0 then ((zf_143_149 x0 x1 x3 x4 x5 x6 x7 x8 x9 (s0 - s1) v3 0 s2)) else (if x1 = 0 then (if x7 ≤ (s0 - s1) then ((zf_143_149 x0 x1 x3 x4 x5 x6 x7 x8 x9 (s0 - s1) v3 0 s2)) else ((zf_143_149 x0 x1 x3 x4 x5 x6 x7 x8 x9 (s0 - s1) v3 1 s2))) else (if x7 < (s0 - s1) then ((zf_143_149 x0 x1 x3 x4 x5 x6 x7 x8 x9 (s0 - s1) v3 0 s2)) else ((zf_143_149 x0 x1 x3 x4 x5 x6 x7 x8 x9 (s0 - s1) v3 1 s2)))))
def zf_143_74 (x0 : Nat) (x1 : Int) (x2 : Int) (x3 : Nat) (x4 : Nat) (x5 : Nat) (x6 : Int) (x7 : Int) (x8 : Int) (s0 : Int) (s : zS) : zR := zg (x7 + 2) (zC (zf_90 (zshr x2 4) (x7 + 2) s) fun v4 s3 => zC (zf_90 (zshr x2 9) 9 s3) fun v7 s6 => if v7 = 0 then ((zf_143_103 x0 x1 x2 x3 x4 x5 x6 x7 x8 s0 v4 1 s6)) else ((zf_143_103 x0 x1 x2 x3 x4 x5 x6 x7 x8 s0 v4 0 s6)))
def zf_143_56 (x0 : Nat) (x1 : Int) (x2 : Int) (x3 : Nat) (x4 : Nat) (x5 : Nat) (x6 : Int) (x7 : Int) (s0 : Int) (s : zS) : zR := if 0 ≤ x6 then (zg (3 * x6) (zg (8 + (3 * x6)) ((zf_143_74 x0 x1 x2 x3 x4 x5 x6 x7 s0 (8 + (3 * x6)) s)))) else ((zf_143_74 x0 x1 x2 x3 x4 x5 x6 x7 s0 4 s))
def zf_143_34 (x0 : Nat) (x1 : Int) (x2 : Int) (x3 : Nat) (x4 : Nat) (x5 : Nat) (x6 : Int) (s0 : Int) (s : zS) : zR := if 0 ≤ x6 then (zC (zf_111 x6 x4 x5 s) fun v3 s2 => zg (v3 + 1) ((zf_143_56 x0 x1 x2 x3 x4 x5 x6 s0 (v3 + 1) s2))) else ((zf_143_56 x0 x1 x2 x3 x4 x5 x6 s0 3 s))
/-- HexTemplatesLaw.strings(LHexTemplates;ZI[I[I[I)Z -/
def zf_143 (x0 : Nat) (x1 : Int) (x2 : Int) (x3 : Nat) (x4 : Nat) (x5 : Nat) (s : zS) : zR := zn 1 4 (zg ((s.1 578 x5 1) + 1) (zC (zf_90 x2 ((s.1 578 x5 1) + 1) s) fun v4 s3 => zg (v4 - 1) (if 0 ≤ (v4 - 1) then (zg (56 + (v4 - 1)) (zn (56 + (v4 - 1)) 64 ((zf_143_34 x0 x1 x2 x3 x4 x5 (v4 - 1) (s3.1 577 x4 (56 + (v4 - 1))) s3)))) else (zn 0 4 ((zf_143_34 x0 x1 x2 x3 x4 x5 (v4 - 1) (s3.1 578 x5 0) s3))))))
def zf_145_2 : Nat → Int → Int → Nat → Int → zS → zR
  | 0, _, _, _, _, _ => none
  | n + 1, x0, x1, x2, x3, s => if 8 ≤ x3 then (zg (56 + x0) (zn (56 + x0) 64 (zg (56 + x1) (zW 577 x2 64 (56 + x1) (s.1 577 x2 (56 + x0)) s fun s4 => zi 0 s4)))) else (zg (8 * x0) (zg ((8 * x0) + x3) (zn ((8 * x0) + x3) 64 (zg (8 * x1) (zg ((8 * x1) + x3) (zW 577 x2 64 ((8 * x1) + x3) (s.1 577 x2 ((8 * x0) + x3)) s fun s10 => zg (x3 + 1) ((zf_145_2 n x0 x1 x2 (x3 + 1) s10))))))))
/-- HexTemplatesLaw.copies(II[I)V -/
def zf_145 (x0 : Int) (x1 : Int) (x2 : Nat) (s : zS) : zR := (zf_145_2 xfu x0 x1 x2 0 s)
def zf_144_265 (s0 : Int) (s1 : Int) (s : zS) : zR := if s0 = s1 then (zz 1 s) else (zz 0 s)
def zf_144_247 (x4 : Nat) (x6 : Int) (s0 : Nat) (s1 : Int) (s2 : Int) (s3 : Int) (s4 : Int) (s : zS) : zR := zC (zf_91 s0 s1 s2 s3 s4 s) fun v3 s2 => if x6 = 0 then ((zf_144_265 v3 (-1003) s2)) else (zn 3 4 ((zf_144_265 v3 (s2.1 578 x4 3) s2)))
def zf_144_233 (x0 : Nat) (x1 : Int) (x4 : Nat) (x5 : Int) (x6 : Int) (s : zS) : zR := if x1 = 0 then ((zf_144_247 x4 x6 x0 2 5 x5 0 s)) else ((zf_144_247 x4 x6 x0 2 5 x5 1 s))
def zf_144_217 (x0 : Nat) (x1 : Int) (x4 : Nat) (x5 : Int) (x6 : Int) (x9 : Int) (s0 : Nat) (s1 : Int) (s2 : Int) (s3 : Int) (s : zS) : zR := zg (s2 + s3) (zW 578 s0 4 s1 (s2 + s3) s fun s3 => zW 578 x4 4 2 x9 s3 fun s5 => zn 3 4 (zg ((s5.1 578 x4 3) + 1) (zW 578 x4 4 3 ((s5.1 578 x4 3) + 1) s5 fun s8 => (zf_144_233 x0 x1 x4 x5 x6 s8))))
def zf_144_203 (x0 : Nat) (x1 : Int) (x4 : Nat) (x5 : Int) (x6 : Int) (x9 : Int) (s : zS) : zR := zn 1 4 (if x1 = 0 then ((zf_144_217 x0 x1 x4 x5 x6 x9 x4 1 (s.1 578 x4 1) (-1) s)) else ((zf_144_217 x0 x1 x4 x5 x6 x9 x4 1 (s.1 578 x4 1) 1 s)))
def zf_144_172 : Nat → Nat → Int → Nat → Nat → Int → Int → Int → Int → zS → zR
  | 0, _, _, _, _, _, _, _, _, _ => none
  | n + 1, x0, x1, x3, x4, x5, x6, x9, x10, s => if x1 = 0 then (zn 1 4 (zg (x10 + 1) (if (s.1 578 x4 1) ≤ (x10 + 1) then ((zf_144_203 x0 x1 x4 x5 x6 x9 s)) else (zC (zf_145 (x10 + 1) x10 x3 s) fun _ s3 => (zf_144_172 n x0 x1 x3 x4 x5 x6 x9 (x10 + 1) s3))))) else ((zf_144_203 x0 x1 x4 x5 x6 x9 s))
def zf_144_141 : Nat → Nat → Int → Nat → Nat → Int → Int → Int → Int → zS → zR
  | 0, _, _, _, _, _, _, _, _, _ => none
  | n + 1, x0, x1, x3, x4, x5, x6, x9, x10, s => if x1 = 0 then ((zf_144_172 xfu x0 x1 x3 x4 x5 x6 x9 x5 s)) else (if x10 ≤ x5 then ((zf_144_172 xfu x0 x1 x3 x4 x5 x6 x9 x5 s)) else (zg (x10 - 1) (zC (zf_145 (x10 - 1) x10 x3 s) fun _ s3 => zg (x10 + (-1)) ((zf_144_141 n x0 x1 x3 x4 x5 x6 x9 (x10 + (-1)) s3)))))
def zf_144_128 (x0 : Nat) (x1 : Int) (x3 : Nat) (x4 : Nat) (x5 : Int) (x9 : Int) (s0 : Int) (s : zS) : zR := if s0 = 0 then ((zf_144_233 x0 x1 x4 x5 s0 s)) else (zn 1 4 ((zf_144_141 xfu x0 x1 x3 x4 x5 s0 x9 (s.1 578 x4 1) s)))
def zf_144_100 (x0 : Nat) (x1 : Int) (x3 : Nat) (x4 : Nat) (x5 : Int) (x6 : Int) (x8 : Int) (s0 : Int) (s : zS) : zR := zC (zf_134 s0 x8 x1 x4 s) fun v3 s2 => if x6 = 0 then ((zf_144_128 x0 x1 x3 x4 x5 v3 0 s2)) else (if 256 ≤ v3 then ((zf_144_128 x0 x1 x3 x4 x5 v3 0 s2)) else ((zf_144_128 x0 x1 x3 x4 x5 v3 1 s2)))
def zf_144_84 (x0 : Nat) (x1 : Int) (x3 : Nat) (x4 : Nat) (x5 : Int) (x6 : Int) (x7 : Int) (s0 : Int) (s : zS) : zR := if x1 = 0 then ((zf_144_100 x0 x1 x3 x4 x5 x6 s0 x7 s)) else (zg (x7 + s0) ((zf_144_100 x0 x1 x3 x4 x5 x6 s0 (x7 + s0) s)))
def zf_144_52 (x0 : Nat) (x1 : Int) (x3 : Nat) (x4 : Nat) (x5 : Int) (x6 : Int) (s : zS) : zR := zC (zf_111 x5 x3 x4 s) fun v3 s2 => zn 1 4 (if (s2.1 578 x4 1) ≤ x5 then ((zf_144_84 x0 x1 x3 x4 x5 x6 v3 0 s2)) else (zg (56 + x5) (zn (56 + x5) 64 (zg (1 + (s2.1 577 x3 (56 + x5))) ((zf_144_84 x0 x1 x3 x4 x5 x6 v3 (1 + (s2.1 577 x3 (56 + x5))) s2))))))
def zf_144_35 (x0 : Nat) (x1 : Int) (x3 : Nat) (x4 : Nat) (x5 : Int) (s0 : Int) (s : zS) : zR := if x1 = 0 then ((zf_144_52 x0 x1 x3 x4 x5 s0 s)) else (zn 1 4 (if (s.1 578 x4 1) = 7 then (zz 1 s) else ((zf_144_52 x0 x1 x3 x4 x5 s0 s))))
/-- HexTemplatesLaw.elements(LHexTemplates;ZI[I[I)Z -/
def zf_144 (x0 : Nat) (x1 : Int) (x2 : Int) (x3 : Nat) (x4 : Nat) (s : zS) : zR := zn 1 4 (zg ((s.1 578 x4 1) + 1) (zC (zf_90 x2 ((s.1 578 x4 1) + 1) s) fun v4 s3 => zn 1 4 (if (s3.1 578 x4 1) ≤ v4 then ((zf_144_35 x0 x1 x3 x4 v4 0 s3)) else (zn 3 4 (if 29 ≤ (s3.1 578 x4 3) then ((zf_144_35 x0 x1 x3 x4 v4 0 s3)) else ((zf_144_35 x0 x1 x3 x4 v4 1 s3)))))))
def zf_0_383 (L : Nat) (xs : Nat → Int32) (zk351 : Nat → Nat → Nat → Nat → Int → Int → zS → zR) : Nat → Nat → Nat → Nat → Nat → Int → Int → Int → zS → zR
  | 0, _, _, _, _, _, _, _, _ => none
  | n + 1, x1, x2, x3, x4, x5, x6, x7, s => zg (56 + x6) (zn (56 + x6) 64 (if (s.1 577 x3 (56 + x6)) ≤ x7 then (zg (x6 + 1) ((zk351 x1 x2 x3 x4 x5 (x6 + 1) s))) else (zg (7 + x6) (zC (zf_89 L xs (7 + x6) s) fun v6 s5 => zg (5 * x7) (zg (3 + (5 * x7)) (zC (zf_90 (zshr v6 (3 + (5 * x7))) 256 s5) fun v11 s10 => zg (8 * x6) (zg ((8 * x6) + x7) (zW 577 x3 64 ((8 * x6) + x7) v11 s10 fun s15 => zg (x7 + 1) ((zf_0_383 L xs zk351 n x1 x2 x3 x4 x5 x6 (x7 + 1) s15))))))))))
def zf_0_883 (L : Nat) (xs : Nat → Int32) (zk525 : Nat → Nat → Nat → Nat → Int → Int → zS → zR) (x1 : Nat) (x2 : Nat) (x3 : Nat) (x4 : Nat) (x5 : Int) (x7 : Int) (x10 : Int) (s : zS) : zR := if x5 = 0 then (zg (x7 + 1) ((zk525 x1 x2 x3 x4 0 (x7 + 1) s))) else (zC (zf_129 x1 (zshr x10 3) x2 x3 x4 s) fun v4 s3 => if v4 = 0 then (zg (x7 + 1) ((zk525 x1 x2 x3 x4 0 (x7 + 1) s3))) else (zg (x7 + 1) ((zk525 x1 x2 x3 x4 1 (x7 + 1) s3))))
def zf_0_626 (L : Nat) (xs : Nat → Int32) (zk525 : Nat → Nat → Nat → Nat → Int → Int → zS → zR) (x1 : Nat) (x2 : Nat) (x3 : Nat) (x4 : Nat) (x7 : Int) (x10 : Int) (s0 : Nat) (s1 : Int) (s : zS) : zR := zC (zf_144 s0 s1 x10 x3 x4 s) fun v3 s2 => (zf_0_883 L xs zk525 x1 x2 x3 x4 v3 x7 x10 s2)
def zf_0_755 (L : Nat) (xs : Nat → Int32) (zk525 : Nat → Nat → Nat → Nat → Int → Int → zS → zR) (x1 : Nat) (x2 : Nat) (x3 : Nat) (x4 : Nat) (x7 : Int) (x10 : Int) (s0 : Int) (s1 : Int) (s : zS) : zR := if s0 = s1 then ((zf_0_883 L xs zk525 x1 x2 x3 x4 1 x7 x10 s)) else ((zf_0_883 L xs zk525 x1 x2 x3 x4 0 x7 x10 s))
def zf_0_721 (L : Nat) (xs : Nat → Int32) (zk525 : Nat → Nat → Nat → Nat → Int → Int → zS → zR) (x1 : Nat) (x2 : Nat) (x3 : Nat) (x4 : Nat) (x7 : Int) (x10 : Int) (x11 : Int) (x12 : Int) (s0 : Nat) (s1 : Int) (s2 : Int) (s3 : Int) (s : zS) : zR := zg (s2 + s3) (zW 578 s0 4 s1 (s2 + s3) s fun s3 => zn 1 4 (zg (3 * (s3.1 578 x4 1)) (zg (8 + (3 * (s3.1 578 x4 1))) (zC (zf_91 x1 3 (8 + (3 * (s3.1 578 x4 1))) x11 0 s3) fun v8 s7 => if x12 = 0 then ((zf_0_755 L xs zk525 x1 x2 x3 x4 x7 x10 v8 (-1003) s7)) else (zn 3 4 ((zf_0_755 L xs zk525 x1 x2 x3 x4 x7 x10 v8 (s7.1 578 x4 3) s7)))))))
def zf_0_705 (L : Nat) (xs : Nat → Int32) (zk525 : Nat → Nat → Nat → Nat → Int → Int → zS → zR) (x1 : Nat) (x2 : Nat) (x3 : Nat) (x4 : Nat) (x7 : Int) (x10 : Int) (x11 : Int) (x12 : Int) (s0 : Nat) (s1 : Int) (s2 : Int) (s : zS) : zR := zW 578 s0 4 s1 s2 s fun s2 => zn 3 4 (if x12 = 0 then ((zf_0_721 L xs zk525 x1 x2 x3 x4 x7 x10 x11 x12 x4 3 (s2.1 578 x4 3) 0 s2)) else ((zf_0_721 L xs zk525 x1 x2 x3 x4 x7 x10 x11 x12 x4 3 (s2.1 578 x4 3) 1 s2)))
def zf_0_686 (L : Nat) (xs : Nat → Int32) (zk525 : Nat → Nat → Nat → Nat → Int → Int → zS → zR) (x1 : Nat) (x2 : Nat) (x3 : Nat) (x4 : Nat) (x7 : Int) (x10 : Int) (x11 : Int) (s0 : Int) (s : zS) : zR := if s0 = 0 then (zn 2 4 ((zf_0_705 L xs zk525 x1 x2 x3 x4 x7 x10 x11 s0 x4 2 (s.1 578 x4 2) s))) else ((zf_0_705 L xs zk525 x1 x2 x3 x4 x7 x10 x11 s0 x4 2 x11 s))
def zf_0_873 (L : Nat) (xs : Nat → Int32) (zk525 : Nat → Nat → Nat → Nat → Int → Int → zS → zR) (x1 : Nat) (x2 : Nat) (x3 : Nat) (x4 : Nat) (x7 : Int) (x10 : Int) (s0 : Int) (s1 : Int) (s : zS) : zR := if s0 = s1 then ((zf_0_883 L xs zk525 x1 x2 x3 x4 1 x7 x10 s)) else ((zf_0_883 L xs zk525 x1 x2 x3 x4 0 x7 x10 s))
def zf_0_808 (L : Nat) (xs : Nat → Int32) (zk525 : Nat → Nat → Nat → Nat → Int → Int → zS → zR) (x1 : Nat) (x2 : Nat) (x3 : Nat) (x4 : Nat) (x7 : Int) (x10 : Int) (x11 : Int) (s0 : Nat) (s1 : Int) (s2 : Int) (s3 : Int) (s : zS) : zR := zg (s2 + s3) (zW 578 s0 4 s1 (s2 + s3) s fun s3 => zC (zf_90 x10 3 s3) fun v6 s5 => if v6 ≤ 0 then (zC (zf_91 x1 4 0 0 0 s5) fun v9 s8 => if x11 = 0 then ((zf_0_873 L xs zk525 x1 x2 x3 x4 x7 x10 v9 (-1003) s8)) else (zn 3 4 ((zf_0_873 L xs zk525 x1 x2 x3 x4 x7 x10 v9 (s8.1 578 x4 3) s8)))) else (zC (zf_90 (zshr x10 2) 3 s5) fun v12 s11 => zg (1 + v12) (zC (zf_91 x1 3 (1 + v12) 5 0 s11) fun v16 s15 => if v16 = (-1003) then ((zf_0_883 L xs zk525 x1 x2 x3 x4 1 x7 x10 s15)) else ((zf_0_883 L xs zk525 x1 x2 x3 x4 0 x7 x10 s15)))))
def zf_0_782 (L : Nat) (xs : Nat → Int32) (zk525 : Nat → Nat → Nat → Nat → Int → Int → zS → zR) (x1 : Nat) (x2 : Nat) (x3 : Nat) (x4 : Nat) (x7 : Int) (x10 : Int) (s0 : Int) (s : zS) : zR := zn 3 4 (if s0 = 0 then ((zf_0_808 L xs zk525 x1 x2 x3 x4 x7 x10 s0 x4 3 (s.1 578 x4 3) 0 s)) else (zC (zf_90 x10 3 s) fun v3 s2 => if v3 = 0 then ((zf_0_808 L xs zk525 x1 x2 x3 x4 x7 x10 s0 x4 3 (s.1 578 x4 3) 1 s2)) else ((zf_0_808 L xs zk525 x1 x2 x3 x4 x7 x10 s0 x4 3 (s.1 578 x4 3) 0 s2))))
def zf_0_525 (L : Nat) (xs : Nat → Int32) : Nat → Nat → Nat → Nat → Nat → Int → Int → zS → zR
  | 0, _, _, _, _, _, _, _ => none
  | n + 1, x1, x2, x3, x4, x5, x7, s => if 36 ≤ x7 then (zz x5 s) else (if x5 = 0 then (zz x5 s) else (zg (11 + x7) (zC (zf_89 L xs (11 + x7) s) fun v4 s3 => zC (zf_90 v4 8 s3) fun v7 s6 => if 3 ≤ v7 then (if v7 = 3 then (zC (zf_143 x1 0 (zshr v4 4) x2 x3 x4 s6) fun v14 s13 => (zf_0_883 L xs (fun y0 y1 y2 y3 y4 y5 y => (zf_0_525 L xs n y0 y1 y2 y3 y4 y5 y)) x1 x2 x3 x4 v14 x7 (zshr v4 4) s13)) else (if 6 ≤ v7 then (if v7 = 6 then (zC (zf_90 (zshr v4 4) 300 s6) fun v10 s9 => zg (v10 - 10) (if (v10 - 10) < 0 then ((zf_0_686 L xs (fun y0 y1 y2 y3 y4 y5 y => (zf_0_525 L xs n y0 y1 y2 y3 y4 y5 y)) x1 x2 x3 x4 x7 (zshr v4 4) (v10 - 10) 0 s9)) else (if 256 ≤ (v10 - 10) then ((zf_0_686 L xs (fun y0 y1 y2 y3 y4 y5 y => (zf_0_525 L xs n y0 y1 y2 y3 y4 y5 y)) x1 x2 x3 x4 x7 (zshr v4 4) (v10 - 10) 0 s9)) else (zn 3 4 (if 29 ≤ (s9.1 578 x4 3) then ((zf_0_686 L xs (fun y0 y1 y2 y3 y4 y5 y => (zf_0_525 L xs n y0 y1 y2 y3 y4 y5 y)) x1 x2 x3 x4 x7 (zshr v4 4) (v10 - 10) 0 s9)) else ((zf_0_686 L xs (fun y0 y1 y2 y3 y4 y5 y => (zf_0_525 L xs n y0 y1 y2 y3 y4 y5 y)) x1 x2 x3 x4 x7 (zshr v4 4) (v10 - 10) 1 s9))))))) else (zn 3 4 (if 29 ≤ (s6.1 578 x4 3) then ((zf_0_782 L xs (fun y0 y1 y2 y3 y4 y5 y => (zf_0_525 L xs n y0 y1 y2 y3 y4 y5 y)) x1 x2 x3 x4 x7 (zshr v4 4) 0 s6)) else ((zf_0_782 L xs (fun y0 y1 y2 y3 y4 y5 y => (zf_0_525 L xs n y0 y1 y2 y3 y4 y5 y)) x1 x2 x3 x4 x7 (zshr v4 4) 1 s6))))) else (if v7 = 4 then ((zf_0_626 L xs (fun y0 y1 y2 y3 y4 y5 y => (zf_0_525 L xs n y0 y1 y2 y3 y4 y5 y)) x1 x2 x3 x4 x7 (zshr v4 4) x1 1 s6)) else ((zf_0_626 L xs (fun y0 y1 y2 y3 y4 y5 y => (zf_0_525 L xs n y0 y1 y2 y3 y4 y5 y)) x1 x2 x3 x4 x7 (zshr v4 4) x1 0 s6))))) else (zC (zf_143 x1 1 (zshr v4 4) x2 x3 x4 s6) fun v17 s16 => (zf_0_883 L xs (fun y0 y1 y2 y3 y4 y5 y => (zf_0_525 L xs n y0 y1 y2 y3 y4 y5 y)) x1 x2 x3 x4 v17 x7 (zshr v4 4) s16)))))
def zf_0_456 (L : Nat) (xs : Nat → Int32) : Nat → Nat → Nat → Nat → Nat → Int → Int → Int → zS → zR
  | 0, _, _, _, _, _, _, _, _ => none
  | n + 1, x1, x2, x3, x4, x5, x6, x7, s => if x6 ≤ x7 then (if x5 = 0 then ((zf_0_525 L xs xfu x1 x2 x3 x4 0 0 s)) else (zC (zf_106 x1 s) fun v3 s2 => if v3 = 0 then ((zf_0_525 L xs xfu x1 x2 x3 x4 1 0 s2)) else ((zf_0_525 L xs xfu x1 x2 x3 x4 0 0 s2)))) else (if x5 = 0 then (zg (x7 + 1) ((zf_0_456 L xs n x1 x2 x3 x4 0 x6 (x7 + 1) s))) else (zC (zf_112 x7 x2 x3 x4 s) fun v7 s6 => zC (zf_105 x1 (Int32.ofInt v7).toInt64 1 s6) fun v10 s9 => zg (x7 + 1) (if v10 = (x7 + 1) then ((zf_0_456 L xs n x1 x2 x3 x4 1 x6 (x7 + 1) s9)) else ((zf_0_456 L xs n x1 x2 x3 x4 0 x6 (x7 + 1) s9)))))
def zf_0_351 (L : Nat) (xs : Nat → Int32) : Nat → Nat → Nat → Nat → Nat → Int → Int → zS → zR
  | 0, _, _, _, _, _, _, _ => none
  | n + 1, x1, x2, x3, x4, x5, x6, s => zn 1 4 (if (s.1 578 x4 1) ≤ x6 then (zn 1 4 (zC (zf_111 (s.1 578 x4 1) x3 x4 s) fun v3 s2 => zg (v3 + 5) ((zf_0_456 L xs xfu x1 x2 x3 x4 x5 (v3 + 5) 0 s2)))) else (zg (7 + x6) (zC (zf_89 L xs (7 + x6) s) fun v8 s7 => zC (zf_90 v8 4 s7) fun v11 s10 => zg (56 + x6) (zW 577 x3 64 (56 + x6) v11 s10 fun s14 => (zf_0_383 L xs (fun y0 y1 y2 y3 y4 y5 y => (zf_0_351 L xs n y0 y1 y2 y3 y4 y5 y)) xfu x1 x2 x3 x4 x5 x6 0 s14)))))
def zf_0_315 (L : Nat) (xs : Nat → Int32) : Nat → Nat → Nat → Nat → Nat → Int → Int → zS → zR
  | 0, _, _, _, _, _, _, _ => none
  | n + 1, x1, x2, x3, x4, x5, x6, s => zn 0 4 (if (s.1 578 x4 0) ≤ x6 then ((zf_0_351 L xs xfu x1 x2 x3 x4 x5 0 s)) else (zg (1 + x6) (zC (zf_89 L xs (1 + x6) s) fun v4 s3 => zC (zf_90 v4 256 s3) fun v7 s6 => zW 576 x2 21 x6 v7 s6 fun s9 => zg (x6 + 1) ((zf_0_315 L xs n x1 x2 x3 x4 x5 (x6 + 1) s9)))))
def zf_0_230 (L : Nat) (xs : Nat → Int32) (x1 : Nat) (x2 : Nat) (x3 : Nat) (x4 : Nat) (s0 : Int) (s : zS) : zR := zC (zf_89 L xs 0 s) fun v3 s2 => zC (zf_90 v3 6 s2) fun v6 s5 => zW 578 x4 4 0 v6 s5 fun s8 => zC (zf_89 L xs 0 s8) fun v11 s10 => zC (zf_90 (zshr v11 3) 4 s10) fun v14 s13 => zW 578 x4 4 1 v14 s13 fun s16 => zC (zf_89 L xs 0 s16) fun v19 s18 => zC (zf_90 (zshr v19 5) 4 s18) fun v22 s21 => if v22 = 0 then (zC (zf_89 L xs 0 s21) fun v33 s32 => zC (zf_90 (zshr v33 7) 6 s32) fun v36 s35 => zg (250 + v36) (zW 578 x4 4 2 (250 + v36) s35 fun s39 => (zf_0_315 L xs xfu x1 x2 x3 x4 s0 0 s39))) else (zC (zf_89 L xs 0 s21) fun v25 s24 => zC (zf_90 (zshr v25 7) 30 s24) fun v28 s27 => zW 578 x4 4 2 v28 s27 fun s30 => (zf_0_315 L xs xfu x1 x2 x3 x4 s0 0 s30))
def zf_0_23 (L : Nat) (xs : Nat → Int32) (x1 : Nat) (x2 : Nat) (x3 : Nat) (x4 : Nat) (s : zS) : zR := zC (zf_92 x1 65 123 109 58 98 61 55 55 s) fun _ s2 => zC (zf_92 x1 59 108 58 98 61 35 100 59 s2) fun _ s4 => zC (zf_92 x1 110 58 98 61 37 101 59 100 s4) fun _ s6 => zC (zf_92 x1 58 115 40 108 41 59 101 58 s6) fun _ s8 => zC (zf_92 x1 66 91 110 93 59 99 58 98 s8) fun _ s10 => zC (zf_92 x1 61 43 100 59 120 58 98 61 s10) fun _ s12 => zC (zf_92 x1 94 101 59 114 58 114 66 59 s12) fun _ s14 => zC (zf_92 x1 125 66 123 116 58 98 61 35 s14) fun _ s16 => zC (zf_92 x1 118 59 118 58 115 40 116 41 s16) fun _ s18 => zC (zf_92 x1 59 125 0 0 0 0 0 0 s18) fun _ s20 => zC (zf_107 x1 3 s20) fun v23 s22 => if v23 = 0 then ((zf_0_230 L xs x1 x2 x3 x4 1 s22)) else ((zf_0_230 L xs x1 x2 x3 x4 0 s22))
