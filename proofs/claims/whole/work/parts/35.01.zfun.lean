/-! the methods over the store -/
def zf_219_133 (x0 : Nat) (x3 : Int) (x4 : Int) (x6 : Int) (x7 : Int) (x8 : Int) (s0 : Nat) (s1 : Int) (s2 : Int) (s3 : Int) (s4 : Int) (s5 : Int) (s : zS) : zR := zC (zf_207 s0 s1 s2 s3 s4 s5 s) fun v3 s2 => if x3 = 0 then (zC (zf_209 x0 x8 x6 s2) fun _ s5 => (zf_219_197 x0 x4 v3 s5)) else (zC (zf_208 x0 x8 x6 s2) fun _ s7 => (zf_219_153 xfu x0 x4 x6 x7 x8 v3 0 s7))
def zf_219_115 (x0 : Nat) (x1 : Int) (x3 : Int) (x4 : Int) (x6 : Int) (x7 : Int) (s0 : Int) (s : zS) : zR := if x3 = 0 then ((zf_219_133 x0 x3 x4 x6 x7 s0 x0 x1 s0 x6 x3 (-1) s)) else ((zf_219_133 x0 x3 x4 x6 x7 s0 x0 x1 s0 x6 x3 1 s))
def zf_219_56 (x0 : Nat) (x1 : Int) (x3 : Int) (x4 : Int) (s0 : Int) (s : zS) : zR := if s0 = (-1) then ((zf_219_73 x0 s)) else (if (s.1 599 x0 0) = 30 then ((zf_219_73 x0 s)) else (zC (zf_203 x0 s) fun _ s2 => zn s0 201 (zn s0 201 (if x3 = 0 then ((zf_219_115 x0 x1 x3 x4 (s2.1 615 x0 s0) (s2.1 614 x0 s0) (s2.1 614 x0 s0) s2)) else (zg ((s2.1 614 x0 s0) + (s2.1 615 x0 s0)) ((zf_219_115 x0 x1 x3 x4 (s2.1 615 x0 s0) (s2.1 614 x0 s0) ((s2.1 614 x0 s0) + (s2.1 615 x0 s0)) s2)))))))
def zf_219_14 (x0 : Nat) (x1 : Int) (x2 : Int) (x3 : Int) (s0 : Nat) (s1 : Int) (s : zS) : zR := zP 576 s0 0 s1 s fun s2 => if (s2.1 576 x0 0) ≤ 0 then (zn x1 201 (if (s2.1 612 x0 x1) = 1 then (zC (zf_218 x0 x1 x2 s2) fun v5 s4 => (zf_219_56 x0 x1 x3 (zdiv (s2.1 603 x0 0) 200) v5 s4)) else ((zf_219_56 x0 x1 x3 (zdiv (s2.1 603 x0 0) 200) (-1) s2)))) else (zi 0 s2)
/-- HexTemplatesModel.element(IIZ)I -/
def zf_219 (x0 : Nat) (x1 : Int) (x2 : Int) (x3 : Int) (s : zS) : zR := zC (zf_191 x0 x1 s) fun v3 s2 => if v3 = 0 then ((zf_219_14 x0 x1 x2 x3 x0 1 s2)) else ((zf_219_14 x0 x1 x2 x3 x0 0 s2))
def zf_220_24 (x0 : Nat) (s : zS) : zR := zC (zf_145 x0 1 s) fun v3 s2 => zi v3 s2
/-- HexTemplatesModel.repair()I -/
def zf_220 (x0 : Nat) (s : zS) : zR := zP 576 x0 0 0 s fun s2 => zC (zf_187 x0 s2) fun v5 s4 => if v5 = (-1) then ((zf_220_24 x0 s4)) else (if (s4.1 599 x0 0) = 30 then ((zf_220_24 x0 s4)) else (zC (zf_203 x0 s4) fun _ s7 => zC (zf_211 x0 v5 s7) fun v10 s9 => zC (zf_204 x0 v10 1 s9) fun v13 s12 => zi v13 s12))
/-- HexTemplatesModel.byteOf(II)I -/
def zf_221 (x0 : Nat) (x1 : Int) (x2 : Int) (s : zS) : zR := zg (160 * x1) (zg ((160 * x1) + x2) (zn ((160 * x1) + x2) 4800 (zi (s.1 602 x0 ((160 * x1) + x2)) s)))
def zf_222_2 : Nat → Nat → Int → Int → Int → zS → zR
  | 0, _, _, _, _, _ => none
  | n + 1, x0, x1, x2, x3, s => zn x1 30 (if (s.1 600 x0 x1) ≤ x3 then (zi x3 s) else (zn x2 30 (if (s.1 600 x0 x2) ≤ x3 then (zi x3 s) else (zC (zf_221 x0 x1 x3 s) fun v3 s2 => zC (zf_221 x0 x2 x3 s2) fun v6 s5 => if v3 = v6 then (zg (x3 + 1) ((zf_222_2 n x0 x1 x2 (x3 + 1) s5))) else (zi x3 s5)))))
/-- HexTemplatesModel.ahead(II)I -/
def zf_222 (x0 : Nat) (x1 : Int) (x2 : Int) (s : zS) : zR := (zf_222_2 xfu x0 x1 x2 0 s)
def zf_223_3 : Nat → Nat → Int → Int → Int → Int → zS → zR
  | 0, _, _, _, _, _, _ => none
  | n + 1, x0, x1, x2, x3, x4, s => zn x1 30 (zg ((s.1 600 x0 x1) - x3) (if ((s.1 600 x0 x1) - x3) ≤ x4 then (zi x4 s) else (zn x2 30 (zg ((s.1 600 x0 x2) - x3) (if ((s.1 600 x0 x2) - x3) ≤ x4 then (zi x4 s) else (zn x1 30 (zg ((s.1 600 x0 x1) - 1) (zg (((s.1 600 x0 x1) - 1) - x4) (zC (zf_221 x0 x1 (((s.1 600 x0 x1) - 1) - x4) s) fun v7 s6 => zn x2 30 (zg ((s6.1 600 x0 x2) - 1) (zg (((s6.1 600 x0 x2) - 1) - x4) (zC (zf_221 x0 x2 (((s6.1 600 x0 x2) - 1) - x4) s6) fun v12 s11 => if v7 = v12 then (zg (x4 + 1) ((zf_223_3 n x0 x1 x2 x3 (x4 + 1) s11))) else (zi x4 s11)))))))))))))
/-- HexTemplatesModel.behind(III)I -/
def zf_223 (x0 : Nat) (x1 : Int) (x2 : Int) (x3 : Int) (s : zS) : zR := (zf_223_3 xfu x0 x1 x2 x3 0 s)
def zf_224_35 (x0 : Nat) (x1 : Int) (x2 : Int) (x3 : Int) (s0 : Nat) (s1 : Int) (s : zS) : zR := zP 576 s0 0 s1 s fun s2 => if (s2.1 576 x0 0) ≤ 0 then (zC (zf_222 x0 x1 x2 s2) fun v5 s4 => zC (zf_223 x0 x1 x2 v5 s4) fun v8 s7 => if x3 = 0 then (zi v5 s7) else (if x3 = 1 then (zn x1 30 (zg ((s7.1 600 x0 x1) - v5) (zg (((s7.1 600 x0 x1) - v5) - v8) (zi (((s7.1 600 x0 x1) - v5) - v8) s7)))) else (zn x2 30 (zg ((s7.1 600 x0 x2) - v5) (zg (((s7.1 600 x0 x2) - v5) - v8) (zi (((s7.1 600 x0 x2) - v5) - v8) s7)))))) else (zi 0 s2)
/-- HexTemplatesModel.hunk(III)I -/
def zf_224 (x0 : Nat) (x1 : Int) (x2 : Int) (x3 : Int) (s : zS) : zR := zC (zf_153 x0 x1 s) fun v3 s2 => if v3 = 0 then ((zf_224_35 x0 x1 x2 x3 x0 1 s2)) else (zC (zf_153 x0 x2 s2) fun v6 s5 => if v6 = 0 then ((zf_224_35 x0 x1 x2 x3 x0 1 s5)) else (zC (zf_146 x3 0 2 s5) fun v9 s8 => if v9 = 0 then ((zf_224_35 x0 x1 x2 x3 x0 2 s8)) else ((zf_224_35 x0 x1 x2 x3 x0 0 s8))))
def zf_225_28 : Nat → Nat → Int → Int → Int → Int → Int → zS → zR
  | 0, _, _, _, _, _, _, _ => none
  | n + 1, x0, x1, x3, x4, x5, x6, s => if x3 ≤ x6 then (zz x5 s) else (if x5 = 0 then (zz x5 s) else (zC (zf_221 x0 x1 x6 s) fun v3 s2 => zg (x6 + x4) (zn (x6 + x4) 400 (if v3 = (s2.1 595 x0 (x6 + x4)) then (zg (x6 + 1) ((zf_225_28 n x0 x1 x3 x4 1 (x6 + 1) s2))) else (zg (x6 + 1) ((zf_225_28 n x0 x1 x3 x4 0 (x6 + 1) s2)))))))
/-- HexTemplatesModel.fits(IIII)Z -/
def zf_225 (x0 : Nat) (x1 : Int) (x2 : Int) (x3 : Int) (x4 : Int) (s : zS) : zR := zg (x2 + x4) (if (x2 + x4) < 0 then ((zf_225_28 xfu x0 x1 x3 x4 0 x2 s)) else (zg (x3 + x4) (if (s.1 594 x0 0) < (x3 + x4) then ((zf_225_28 xfu x0 x1 x3 x4 0 x2 s)) else ((zf_225_28 xfu x0 x1 x3 x4 1 x2 s)))))
def zf_226_229 (x0 : Nat) (s : zS) : zR := zC (zf_145 x0 2 s) fun v3 s2 => zi v3 s2
def zf_226_262 : Nat → Nat → Int → Int → Int → Int → Int → zS → zR
  | 0, _, _, _, _, _, _, _ => none
  | n + 1, x0, x2, x3, x6, x9, x10, s => if x6 ≤ x10 then (zC (zf_148 x0 s) fun v3 s2 => zi v3 s2) else (zg (x3 + x10) (zC (zf_221 x0 x2 (x3 + x10) s) fun v7 s6 => zg (x3 + x9) (zg ((x3 + x9) + x10) (zW 595 x0 400 ((x3 + x9) + x10) v7 s6 fun s11 => zg (x10 + 1) ((zf_226_262 n x0 x2 x3 x6 x9 (x10 + 1) s11))))))
def zf_226_196 (x0 : Nat) (x2 : Int) (x3 : Int) (x5 : Int) (x6 : Int) (x9 : Int) (s : zS) : zR := if x9 = 999 then ((zf_226_229 x0 s)) else (zg ((s.1 594 x0 0) - x5) (zg (((s.1 594 x0 0) - x5) + x6) (if 160 < (((s.1 594 x0 0) - x5) + x6) then ((zf_226_229 x0 s)) else (if (s.1 599 x0 0) = 30 then ((zf_226_229 x0 s)) else (zC (zf_203 x0 s) fun _ s4 => zg (x3 + x9) (zC (zf_209 x0 (x3 + x9) x5 s4) fun _ s7 => zC (zf_208 x0 (x3 + x9) x6 s7) fun _ s9 => (zf_226_262 xfu x0 x2 x3 x6 x9 0 s9)))))))
def zf_226_130 : Nat → Nat → Int → Int → Int → Int → Int → Int → Int → Int → Int → zS → zR
  | 0, _, _, _, _, _, _, _, _, _, _, _ => none
  | n + 1, x0, x1, x2, x3, x5, x6, x7, x8, x9, x10, s => if 200 < x10 then ((zf_226_196 x0 x2 x3 x5 x6 x9 s)) else (if x9 = 999 then (zg (-x10) (zC (zf_225 x0 x1 x7 x8 (-x10) s) fun v4 s3 => if v4 = 0 then (zC (zf_225 x0 x1 x7 x8 x10 s3) fun v7 s6 => if v7 = 0 then (zg (x10 + 1) ((zf_226_130 n x0 x1 x2 x3 x5 x6 x7 x8 x9 (x10 + 1) s6))) else (zg (x10 + 1) ((zf_226_130 n x0 x1 x2 x3 x5 x6 x7 x8 x10 (x10 + 1) s6)))) else (zg (x10 + 1) ((zf_226_130 n x0 x1 x2 x3 x5 x6 x7 x8 (-x10) (x10 + 1) s3))))) else ((zf_226_196 x0 x2 x3 x5 x6 x9 s)))
def zf_226_120 (x0 : Nat) (x1 : Int) (x2 : Int) (x3 : Int) (x5 : Int) (x6 : Int) (x7 : Int) (s0 : Int) (s : zS) : zR := (zf_226_130 xfu x0 x1 x2 x3 x5 x6 x7 s0 999 0 s)
def zf_226_88 (x0 : Nat) (x1 : Int) (x2 : Int) (x3 : Int) (x5 : Int) (x6 : Int) (s0 : Int) (s : zS) : zR := zn x1 30 (zg (x3 + x5) (zg ((x3 + x5) + 2) (if ((x3 + x5) + 2) ≤ (s.1 600 x0 x1) then ((zf_226_120 x0 x1 x2 x3 x5 x6 s0 ((x3 + x5) + 2) s)) else (zn x1 30 ((zf_226_120 x0 x1 x2 x3 x5 x6 s0 (s.1 600 x0 x1) s))))))
def zf_226_22 (x0 : Nat) (x1 : Int) (x2 : Int) (s0 : Nat) (s1 : Int) (s : zS) : zR := zP 576 s0 0 s1 s fun s2 => if (s2.1 576 x0 0) ≤ 0 then (zC (zf_222 x0 x1 x2 s2) fun v5 s4 => zC (zf_223 x0 x1 x2 v5 s4) fun v8 s7 => zn x1 30 (zn x2 30 (if 2 ≤ v5 then (zg ((s7.1 600 x0 x1) - v5) (zg (((s7.1 600 x0 x1) - v5) - v8) (zg ((s7.1 600 x0 x2) - v5) (zg (((s7.1 600 x0 x2) - v5) - v8) (zg (v5 - 2) ((zf_226_88 x0 x1 x2 v5 (((s7.1 600 x0 x1) - v5) - v8) (((s7.1 600 x0 x2) - v5) - v8) (v5 - 2) s7))))))) else (zg ((s7.1 600 x0 x1) - v5) (zg (((s7.1 600 x0 x1) - v5) - v8) (zg ((s7.1 600 x0 x2) - v5) (zg (((s7.1 600 x0 x2) - v5) - v8) ((zf_226_88 x0 x1 x2 v5 (((s7.1 600 x0 x1) - v5) - v8) (((s7.1 600 x0 x2) - v5) - v8) 0 s7))))))))) else (zi 0 s2)
/-- HexTemplatesModel.patch(II)I -/
def zf_226 (x0 : Nat) (x1 : Int) (x2 : Int) (s : zS) : zR := zC (zf_153 x0 x1 s) fun v3 s2 => if v3 = 0 then ((zf_226_22 x0 x1 x2 x0 1 s2)) else (zC (zf_153 x0 x2 s2) fun v6 s5 => if v6 = 0 then ((zf_226_22 x0 x1 x2 x0 1 s5)) else ((zf_226_22 x0 x1 x2 x0 0 s5)))
/-- HexTemplates$Bytes.append(I)V -/
def zf_4 (x0 : Nat) (x1 : Int) (s : zS) : zR := if ((zlB x0 : Nat) : Int) ≤ (s.1 1 x0 0) then (zi 0 s) else (zW 0 x0 (zlB x0) (s.1 1 x0 0) x1 s fun s2 => zg ((s2.1 1 x0 0) + 1) (zP 1 x0 0 ((s2.1 1 x0 0) + 1) s2 fun s4 => zi 0 s4))
def zf_105_49 : Nat → Nat → Int64 → Int → Int → zS → zR
  | 0, _, _, _, _, _ => none
  | n + 1, x0, x1, x3, x4, s => if x3 ≤ x4 then (zi (s.1 1 0 0) s) else (zg (8 * x4) (zC (zf_4 0 (zand ((x1.toUInt64 >>> ((Int32.ofInt (8 * x4)).toInt64.toUInt64 &&& Int64.toUInt64 63)).toInt64).toInt32.toInt 255) s) fun _ s3 => zg (x4 + 1) ((zf_105_49 n x0 x1 x3 (x4 + 1) s3))))
/-- HexTemplates.feed(JI)I -/
def zf_105 (x0 : Nat) (x1 : Int64) (x3 : Int) (s : zS) : zR := if x3 < 1 then (zt 0 s) else (if x3 ≤ 8 then (zg ((s.1 1 0 0) + x3) (if ((s.1 1 0 0) + x3) ≤ 200 then ((zf_105_49 xfu x0 x1 x3 0 s)) else (zt 1 s))) else (zt 0 s))
/-- HexTemplatesLaw.feed(LHexTemplates;JI[J)I -/
def zf_231 (x0 : Nat) (x1 : Int64) (x3 : Int) (x4 : Nat) (s : zS) : zR := zCh (zf_105 x0 x1 x3 s) (fun v3 s2 => zW 1000 x4 1 0 v3 s2 fun s5 => zi 0 s5) fun e s7 => match e with | 0 => zi 1 s7 | 1 => zi 2 s7 | 2 => some (.inr 2, s7) | e + 3 => some (.inr (e + 3), s7)
/-- java/lang/Math.min(II)I -/
def zf_229 (x0 : Int) (x1 : Int) (s : zS) : zR := if x1 < x0 then (zi x1 s) else (zi x0 s)
def zf_5_18 : Nat → Nat → Nat → Int → zS → zR
  | 0, _, _, _, _ => none
  | n + 1, x0, x1, x2, s => if (s.1 1 x0 0) ≤ x2 then (zi 0 s) else (zn x2 (zlB x1) (zW 0 x0 (zlB x0) x2 (s.1 0 x1 x2) s fun s2 => zg (x2 + 1) ((zf_5_18 n x0 x1 (x2 + 1) s2))))
/-- HexTemplates$Bytes.copy(LHexTemplates$Bytes;)V -/
def zf_5 (x0 : Nat) (x1 : Nat) (s : zS) : zR := zC (zf_229 (s.1 1 x1 0) ((zlB x0 : Nat) : Int) s) fun v3 s2 => zP 1 x0 0 v3 s2 fun s5 => (zf_5_18 xfu x0 x1 0 s5)
/-- HexTemplates$States.isFull()Z -/
def zf_88 (x0 : Nat) (s : zS) : zR := if (s.1 387 x0 0) < 30 then (zz 0 s) else (zz 1 s)
def zf_93_47 : Nat → Nat → Nat → Int → zS → zR
  | 0, _, _, _, _ => none
  | n + 1, x0, x1, x2, s => if (s.1 1 x1 0) ≤ x2 then (zP 388 x0 0 (s.1 387 x0 0) s fun s2 => zg ((s2.1 387 x0 0) + 1) (zP 387 x0 0 ((s2.1 387 x0 0) + 1) s2 fun s4 => zi (s4.1 388 x0 0) s4)) else (zC (zf_2 x1 x2 s) fun v8 s7 => zg ((s.1 387 x0 0) * 160) (zg (((s.1 387 x0 0) * 160) + x2) (zW 384 x0 4800 (((s.1 387 x0 0) * 160) + x2) v8 s7 fun s12 => zg (x2 + 1) ((zf_93_47 n x0 x1 (x2 + 1) s12)))))
/-- HexTemplates$States.keep(LHexTemplates$Bytes;)I -/
def zf_93 (x0 : Nat) (x1 : Nat) (s : zS) : zR := zC (zf_88 x0 s) fun v3 s2 => if v3 = 0 then (if (s2.1 1 x1 0) ≤ 160 then (zW 385 x0 30 (s2.1 387 x0 0) (s2.1 1 x1 0) s2 fun s5 => zW 386 x0 30 (s5.1 387 x0 0) (s5.1 388 x0 0) s5 fun s7 => (zf_93_47 xfu x0 x1 0 s7)) else (zi (-1) s2)) else (zi (-1) s2)
/-- HexTemplates.keepFile()I -/
def zf_131 (x0 : Nat) (s : zS) : zR := zP 523 x0 0 (-3) s fun s2 => zC (zf_93 0 1 s2) fun v5 s4 => zi v5 s4
def zf_106_44 (x0 : Nat) (x1 : Int) (s : zS) : zR := zP 1 0 0 0 s fun s2 => if x1 = 0 then (zt 1 s2) else (zC (zf_131 x0 s2) fun v5 s4 => zi v5 s4)
def zf_106_28 (x0 : Nat) (s0 : Int) (s : zS) : zR := if s0 = 0 then ((zf_106_44 x0 s0 s)) else (zC (zf_5 1 0 s) fun _ s2 => (zf_106_44 x0 s0 s2))
/-- HexTemplates.give()I -/
def zf_106 (x0 : Nat) (s : zS) : zR := if 160 < (s.1 1 0 0) then ((zf_106_28 x0 0 s)) else (zC (zf_88 0 s) fun v3 s2 => if v3 = 0 then ((zf_106_28 x0 1 s2)) else ((zf_106_28 x0 0 s2)))
/-- HexTemplatesLaw.give(LHexTemplates;[J)I -/
def zf_232 (x0 : Nat) (x1 : Nat) (s : zS) : zR := zCh (zf_106 x0 s) (fun v3 s2 => zW 1000 x1 1 0 v3 s2 fun s5 => zi 0 s5) fun e s7 => match e with | 0 => some (.inr 0, s7) | 1 => zi 1 s7 | 2 => some (.inr 2, s7) | e + 3 => some (.inr (e + 3), s7)
/-- HexTemplates$Parser.advance()V -/
def zf_38 (x0 : Nat) (s : zS) : zR := zg ((s.1 258 x0 0) + 1) (zP 258 x0 0 ((s.1 258 x0 0) + 1) s fun s2 => if (s2.1 258 x0 0) < 0 then (zP 259 x0 0 (-1) s2 fun s5 => zi 0 s5) else (zB (s2.1 256 x0 0) fun b6 => if (s2.1 1 b6 0) ≤ (s2.1 258 x0 0) then (zP 259 x0 0 (-1) s2 fun s9 => zi 0 s9) else (zB (s2.1 256 x0 0) fun b10 => zn (s2.1 258 x0 0) (zlB b10) (zP 259 x0 0 (s2.1 0 b10 (s2.1 258 x0 0)) s2 fun s13 => zi 0 s13))))
/-- HexTemplates$Template.clear()V -/
def zf_96 (x0 : Nat) (s : zS) : zR := zP 449 x0 0 0 s fun s2 => zP 450 x0 0 0 s2 fun s4 => zP 451 x0 0 0 s4 fun s6 => zi 0 s6
/-- HexTemplates$Parser.begin(LHexTemplates$Bytes;LHexTemplates$Template;)V -/
def zf_37 (x0 : Nat) (x1 : Nat) (x2 : Int) (s : zS) : zR := zP 256 x0 0 ((x1 : Nat) + 1 : Int) s fun s2 => zP 257 x0 0 x2 s2 fun s4 => zO (s4.1 257 x0 0) s4 fun q5 => zC (zf_96 q5 s4) fun _ s10 => zP 261 x0 0 0 s10 fun s12 => zP 258 x0 0 (-1) s12 fun s14 => zC (zf_38 x0 s14) fun _ s16 => zi 0 s16
/-- HexTemplates$Parser.accept(I)Z -/
def zf_39 (x0 : Nat) (x1 : Int) (s : zS) : zR := if (s.1 259 x0 0) = x1 then (zC (zf_38 x0 s) fun _ s2 => zz 1 s2) else (zz 0 s)
/-- HexTemplates$Parser.isName()Z -/
def zf_40 (x0 : Nat) (s : zS) : zR := if (s.1 259 x0 0) < 65 then (zz 0 s) else (if 90 < (s.1 259 x0 0) then (zz 0 s) else (if (s.1 259 x0 0) = 87 then (zz 0 s) else (zz 1 s)))
def zf_97_2 : Nat → Nat → Int → Int → zS → zR
  | 0, _, _, _, _ => none
  | n + 1, x0, x1, x2, s => if (s.1 449 x0 0) ≤ x2 then (zi (-1) s) else (zn x2 6 (if (s.1 452 x0 x2) = x1 then (zi x2 s) else (zg (x2 + 1) ((zf_97_2 n x0 x1 (x2 + 1) s)))))
/-- HexTemplates$Template.structureNamed(I)I -/
def zf_97 (x0 : Nat) (x1 : Int) (s : zS) : zR := (zf_97_2 xfu x0 x1 0 s)
/-- HexTemplates$Parser.openStructure(I)Z -/
def zf_42 (x0 : Nat) (x1 : Int) (s : zS) : zR := zC (zf_40 x0 s) fun v3 s2 => if v3 = 0 then (zz 0 s2) else (zO (s2.1 257 x0 0) s2 fun q4 => zg ((s2.1 259 x0 0) - 65) (zC (zf_97 q4 ((s2.1 259 x0 0) - 65) s2) fun v11 s10 => if v11 = (-1) then (zP 260 x0 0 x1 s10 fun s13 => zO (s13.1 257 x0 0) s13 fun q14 => zg ((s13.1 259 x0 0) - 65) (zW 452 q14 6 x1 ((s13.1 259 x0 0) - 65) s13 fun s20 => zO (s20.1 257 x0 0) s20 fun q21 => zW 453 q21 6 x1 0 s20 fun s26 => zO (s26.1 257 x0 0) s26 fun q27 => zg ((s26.1 449 q27 0) + 1) (zP 449 q27 0 ((s26.1 449 q27 0) + 1) s26 fun s32 => zC (zf_38 x0 s32) fun _ s35 => zC (zf_39 x0 123 s35) fun v38 s37 => zz v38 s37))) else (zz 0 s10)))
def zf_98_2 : Nat → Nat → Int → Int → Int → zS → zR
  | 0, _, _, _, _, _ => none
  | n + 1, x0, x1, x2, x3, s => zn x1 6 (if (s.1 453 x0 x1) ≤ x3 then (zi (-1) s) else (zg (x1 * 8) (zg ((x1 * 8) + x3) (zn ((x1 * 8) + x3) 48 (if (s.1 457 x0 ((x1 * 8) + x3)) = x2 then (zi x3 s) else (zg (x3 + 1) ((zf_98_2 n x0 x1 x2 (x3 + 1) s))))))))
/-- HexTemplates$Template.placeOf(II)I -/
def zf_98 (x0 : Nat) (x1 : Int) (x2 : Int) (s : zS) : zR := (zf_98_2 xfu x0 x1 x2 0 s)
/-- HexTemplates$Parser.resolveRelation(I)Z -/
def zf_45 (x0 : Nat) (x1 : Int) (s : zS) : zR := zO (s.1 257 x0 0) s fun q1 => zg ((s.1 260 x0 0) * 8) (zg (((s.1 260 x0 0) * 8) + x1) (zn (((s.1 260 x0 0) * 8) + x1) 48 (if (s.1 467 q1 (((s.1 260 x0 0) * 8) + x1)) = 0 then (zz 1 s) else (if (s.1 467 q1 (((s.1 260 x0 0) * 8) + x1)) = 61 then (zz 1 s) else (zO (s.1 257 x0 0) s fun q7 => zn (((s.1 260 x0 0) * 8) + x1) 48 (zO (s.1 257 x0 0) s fun q11 => zC (zf_98 q11 (s.1 260 x0 0) (s.1 468 q7 (((s.1 260 x0 0) * 8) + x1)) s) fun v17 s16 => if v17 = (-1) then (zz 0 s16) else (if v17 = x1 then (zz 0 s16) else (zO (s16.1 257 x0 0) s16 fun q18 => zg ((s16.1 260 x0 0) * 8) (zg (((s16.1 260 x0 0) * 8) + v17) (zW 468 q18 48 (((s.1 260 x0 0) * 8) + x1) (((s16.1 260 x0 0) * 8) + v17) s16 fun s25 => if (s.1 467 q1 (((s.1 260 x0 0) * 8) + x1)) = 37 then (zO (s25.1 257 x0 0) s25 fun q26 => zg ((s25.1 260 x0 0) * 8) (zg (((s25.1 260 x0 0) * 8) + v17) (zn (((s25.1 260 x0 0) * 8) + v17) 48 (if (s25.1 458 q26 (((s25.1 260 x0 0) * 8) + v17)) = 91 then (zz 1 s25) else (zz 0 s25))))) else (zz 1 s25)))))))))))
def zf_43_2 : Nat → Nat → Int → zS → zR
  | 0, _, _, _ => none
  | n + 1, x0, x1, s => zO (s.1 257 x0 0) s fun q1 => zn (s.1 260 x0 0) 6 (if (s.1 453 q1 (s.1 260 x0 0)) ≤ x1 then (if (s.1 261 x0 0) = 0 then (zC (zf_39 x0 125 s) fun v7 s6 => if v7 = 0 then (zz 0 s6) else (zz 1 s6)) else (zz 0 s)) else (zC (zf_45 x0 x1 s) fun v10 s9 => if v10 = 0 then (zz 0 s9) else (zg (x1 + 1) ((zf_43_2 n x0 (x1 + 1) s9)))))
/-- HexTemplates$Parser.closeStructure()Z -/
def zf_43 (x0 : Nat) (s : zS) : zR := (zf_43_2 xfu x0 0 s)
def zf_44_2 : Nat → Nat → Int → zS → zR
  | 0, _, _, _ => none
  | n + 1, x0, x1, s => zO (s.1 257 x0 0) s fun q1 => if (s.1 451 q1 0) ≤ x1 then (zz 1 s) else (zO (s.1 257 x0 0) s fun q5 => zO (s.1 257 x0 0) s fun q9 => zn x1 100 (zO (s.1 257 x0 0) s fun q13 => zC (zf_97 q13 (s.1 456 q9 x1) s) fun v19 s18 => zW 456 q5 100 x1 v19 s18 fun s21 => zO (s21.1 257 x0 0) s21 fun q22 => zn x1 100 (if (s21.1 456 q22 x1) = (-1) then (zz 0 s21) else (zg (x1 + 1) ((zf_44_2 n x0 (x1 + 1) s21))))))
/-- HexTemplates$Parser.resolveChoices()Z -/
def zf_44 (x0 : Nat) (s : zS) : zR := (zf_44_2 xfu x0 0 s)
/-- HexTemplates$Template.addChoice(I)Z -/
def zf_103 (x0 : Nat) (x1 : Int) (s : zS) : zR := if (s.1 451 x0 0) < 100 then (zW 456 x0 100 (s.1 451 x0 0) x1 s fun s2 => zg ((s2.1 451 x0 0) + 1) (zP 451 x0 0 ((s2.1 451 x0 0) + 1) s2 fun s4 => zz 1 s4)) else (zz 0 s)
/-- HexTemplates$Parser.parseChoice()Z -/
def zf_48 (x0 : Nat) (s : zS) : zR := zC (zf_40 x0 s) fun v3 s2 => if v3 = 0 then (zz 0 s2) else (zO (s2.1 257 x0 0) s2 fun q4 => zg ((s2.1 259 x0 0) - 65) (zC (zf_103 q4 ((s2.1 259 x0 0) - 65) s2) fun v11 s10 => if v11 = 0 then (zz 0 s10) else (zC (zf_38 x0 s10) fun _ s13 => zz 1 s13)))
def zf_49_80 (x0 : Nat) (s0 : Nat) (s1 : Int) (s : zS) : zR := zP 261 s0 0 s1 s fun s2 => zC (zf_38 x0 s2) fun _ s4 => zz 1 s4
/-- HexTemplates$Parser.parseBits(I)Z -/
def zf_49 (x0 : Nat) (x1 : Int) (s : zS) : zR := zg ((s.1 259 x0 0) - 48) (if ((s.1 259 x0 0) - 48) < 1 then (zz 0 s) else (zg (8 - (s.1 261 x0 0)) (if ((s.1 259 x0 0) - 48) ≤ (8 - (s.1 261 x0 0)) then (zg ((s.1 261 x0 0) + ((s.1 259 x0 0) - 48)) (zP 261 x0 0 ((s.1 261 x0 0) + ((s.1 259 x0 0) - 48)) s fun s4 => zO (s4.1 257 x0 0) s4 fun q6 => zW 459 q6 48 x1 ((s.1 259 x0 0) - 48) s4 fun s11 => zO (s11.1 257 x0 0) s11 fun q12 => zg (8 - (s11.1 261 x0 0)) (zW 460 q12 48 x1 (8 - (s11.1 261 x0 0)) s11 fun s18 => if (s18.1 261 x0 0) = 8 then ((zf_49_80 x0 x0 0 s18)) else ((zf_49_80 x0 x0 (s18.1 261 x0 0) s18))))) else (zz 0 s))))
def zf_50_61 (x0 : Nat) (x1 : Int) (s : zS) : zR := zO (s.1 257 x0 0) s fun q1 => zO (s.1 257 x0 0) s fun q5 => zW 464 q1 48 x1 (s.1 451 q5 0) s fun s10 => zz 1 s10
def zf_50_27 : Nat → Nat → Int → Int → zS → zR
  | 0, _, _, _, _ => none
  | n + 1, x0, x1, x2, s => if 100 ≤ x2 then ((zf_50_61 x0 x1 s)) else (if (s.1 259 x0 0) = 124 then (zC (zf_38 x0 s) fun _ s2 => zC (zf_48 x0 s2) fun v5 s4 => if v5 = 0 then (zz 0 s4) else (zg (x2 + 1) ((zf_50_27 n x0 x1 (x2 + 1) s4)))) else ((zf_50_61 x0 x1 s)))
/-- HexTemplates$Parser.parseNames(I)Z -/
def zf_50 (x0 : Nat) (x1 : Int) (s : zS) : zR := zO (s.1 257 x0 0) s fun q1 => zO (s.1 257 x0 0) s fun q5 => zW 463 q1 48 x1 (s.1 451 q5 0) s fun s10 => zC (zf_48 x0 s10) fun v13 s12 => if v13 = 0 then (zz 0 s12) else ((zf_50_27 xfu x0 x1 0 s12))
/-- HexTemplates$Parser.isDigit()Z -/
def zf_41 (x0 : Nat) (s : zS) : zR := if (s.1 259 x0 0) < 48 then (zz 0 s) else (if 57 < (s.1 259 x0 0) then (zz 0 s) else (zz 1 s))
/-- java/lang/Math.max(II)I -/
def zf_227 (x0 : Int) (x1 : Int) (s : zS) : zR := if x0 < x1 then (zi x1 s) else (zi x0 s)
def zf_53_4 : Nat → Nat → Int → Int → zS → zR
  | 0, _, _, _, _ => none
  | n + 1, x0, x1, x2, s => if 3 ≤ x2 then (zi x1 s) else (zC (zf_41 x0 s) fun v3 s2 => if v3 = 0 then (zi x1 s2) else (zC (zf_227 x1 0 s2) fun v6 s5 => zC (zf_38 x0 s5) fun _ s8 => zg (v6 * 10) (zg ((v6 * 10) + (s5.1 259 x0 0)) (zg (((v6 * 10) + (s5.1 259 x0 0)) - 48) (zg (x2 + 1) ((zf_53_4 n x0 (((v6 * 10) + (s5.1 259 x0 0)) - 48) (x2 + 1) s8)))))))
/-- HexTemplates$Parser.parseInt()I -/
def zf_53 (x0 : Nat) (s : zS) : zR := (zf_53_4 xfu x0 (-1) 0 s)
/-- HexTemplates$Template.isRelatable(I)Z -/
def zf_101 (x0 : Nat) (x1 : Int) (s : zS) : zR := zn x1 48 (if (s.1 458 x0 x1) = 98 then (zz 1 s) else (if (s.1 458 x0 x1) = 119 then (zz 1 s) else (if (s.1 458 x0 x1) = 87 then (zz 1 s) else (zz 0 s))))
/-- HexTemplates$Template.isNumeric(I)Z -/
def zf_99 (x0 : Nat) (x1 : Int) (s : zS) : zR := zn x1 48 (zC (zf_101 x0 x1 s) fun v3 s2 => if v3 = 0 then (if (s.1 458 x0 x1) = 114 then (zz 1 s2) else (if (s.1 458 x0 x1) = 110 then (zz 1 s2) else (zz 0 s2))) else (zz 1 s2))
/-- HexTemplates$Template.addTerm(II)Z -/
def zf_102 (x0 : Nat) (x1 : Int) (x2 : Int) (s : zS) : zR := if (s.1 450 x0 0) < 100 then (zW 455 x0 100 (s.1 450 x0 0) x1 s fun s2 => zW 454 x0 100 (s2.1 450 x0 0) x2 s2 fun s4 => zg ((s4.1 450 x0 0) + 1) (zP 450 x0 0 ((s4.1 450 x0 0) + 1) s4 fun s6 => zz 1 s6)) else (zz 0 s)
def zf_52_179 (zk21 : Nat → Int → Int → Int → zS → zR) (x0 : Nat) (x1 : Int) (x3 : Int) (s : zS) : zR := zC (zf_38 x0 s) fun _ s2 => zg (x3 + 1) ((zk21 x0 x1 (s.1 259 x0 0) (x3 + 1) s2))
def zf_52_119 (zk21 : Nat → Int → Int → Int → zS → zR) (x0 : Nat) (x1 : Int) (x2 : Int) (x3 : Int) (x5 : Int) (s : zS) : zR := zO (s.1 257 x0 0) s fun q1 => zC (zf_102 q1 x2 x5 s) fun v7 s6 => if v7 = 0 then (zz 0 s6) else (zO (s6.1 257 x0 0) s6 fun q8 => zO (s6.1 257 x0 0) s6 fun q12 => zW 462 q8 48 x1 (s6.1 450 q12 0) s6 fun s17 => if (s17.1 259 x0 0) = 43 then ((zf_52_179 zk21 x0 x1 x3 s17)) else (if (s17.1 259 x0 0) = 45 then ((zf_52_179 zk21 x0 x1 x3 s17)) else (if (s17.1 259 x0 0) = 42 then ((zf_52_179 zk21 x0 x1 x3 s17)) else (zz 1 s17))))
def zf_52_93 (zk21 : Nat → Int → Int → Int → zS → zR) (x0 : Nat) (x1 : Int) (x2 : Int) (x3 : Int) (x4 : Int) (s : zS) : zR := zC (zf_41 x0 s) fun v3 s2 => if v3 = 0 then (zC (zf_38 x0 s2) fun _ s5 => zg ((-1) - x4) ((zf_52_119 zk21 x0 x1 x2 x3 ((-1) - x4) s5))) else (zC (zf_53 x0 s2) fun v9 s8 => (zf_52_119 zk21 x0 x1 x2 x3 v9 s8))
def zf_52_56 (zk21 : Nat → Int → Int → Int → zS → zR) (x0 : Nat) (x1 : Int) (x2 : Int) (x3 : Int) (s0 : Int) (s : zS) : zR := zC (zf_41 x0 s) fun v3 s2 => if v3 = 0 then (if s0 = (-1) then (zz 0 s2) else (zO (s2.1 257 x0 0) s2 fun q4 => zg ((s2.1 260 x0 0) * 8) (zg (((s2.1 260 x0 0) * 8) + s0) (zC (zf_99 q4 (((s2.1 260 x0 0) * 8) + s0) s2) fun v12 s11 => if v12 = 0 then (zz 0 s11) else ((zf_52_93 zk21 x0 x1 x2 x3 s0 s11)))))) else ((zf_52_93 zk21 x0 x1 x2 x3 s0 s2))
def zf_52_21 : Nat → Nat → Int → Int → Int → zS → zR
  | 0, _, _, _, _, _ => none
  | n + 1, x0, x1, x2, x3, s => if 100 ≤ x3 then (zz 0 s) else (zC (zf_41 x0 s) fun v3 s2 => if v3 = 0 then (zO (s2.1 257 x0 0) s2 fun q4 => zg ((s2.1 259 x0 0) - 97) (zC (zf_98 q4 (s2.1 260 x0 0) ((s2.1 259 x0 0) - 97) s2) fun v11 s10 => (zf_52_56 (fun y0 y1 y2 y3 y => (zf_52_21 n y0 y1 y2 y3 y)) x0 x1 x2 x3 v11 s10))) else ((zf_52_56 (fun y0 y1 y2 y3 y => (zf_52_21 n y0 y1 y2 y3 y)) x0 x1 x2 x3 (-1) s2)))
/-- HexTemplates$Parser.parseSum(I)Z -/
def zf_52 (x0 : Nat) (x1 : Int) (s : zS) : zR := zO (s.1 257 x0 0) s fun q1 => zO (s.1 257 x0 0) s fun q5 => zW 461 q1 48 x1 (s.1 450 q5 0) s fun s10 => (zf_52_21 xfu x0 x1 43 0 s10)
def zf_51_70 (x0 : Nat) (x1 : Int) (s : zS) : zR := zO (s.1 257 x0 0) s fun q1 => zn x1 48 (if (s.1 465 q1 x1) = 42 then (zC (zf_39 x0 93 s) fun v33 s32 => zz v33 s32) else (zO (s.1 257 x0 0) s fun q5 => zn x1 48 (if (s.1 465 q5 x1) = 33 then (zO (s.1 257 x0 0) s fun q15 => zC (zf_53 x0 s) fun v21 s20 => zW 466 q15 48 x1 v21 s20 fun s23 => zO (s23.1 257 x0 0) s23 fun q24 => zn x1 48 (if (s23.1 466 q24 x1) = (-1) then (zz 0 s23) else (zC (zf_39 x0 93 s23) fun v30 s29 => if v30 = 0 then (zz 0 s29) else (zz 1 s29)))) else (zC (zf_52 x0 x1 s) fun v11 s10 => if v11 = 0 then (zz 0 s10) else (zC (zf_39 x0 93 s10) fun v14 s13 => if v14 = 0 then (zz 0 s13) else (zz 1 s13))))))
def zf_51_53 (x0 : Nat) (x1 : Int) (s : zS) : zR := zO (s.1 257 x0 0) s fun q1 => zW 465 q1 48 x1 (s.1 259 x0 0) s fun s6 => zC (zf_38 x0 s6) fun _ s8 => (zf_51_70 x0 x1 s8)
/-- HexTemplates$Parser.parseCount(I)Z -/
def zf_51 (x0 : Nat) (x1 : Int) (s : zS) : zR := zO (s.1 257 x0 0) s fun q1 => zW 458 q1 48 x1 91 s fun s6 => zO (s6.1 257 x0 0) s6 fun q7 => zW 465 q7 48 x1 43 s6 fun s12 => zC (zf_38 x0 s12) fun _ s14 => if (s14.1 259 x0 0) = 42 then ((zf_51_53 x0 x1 s14)) else (if (s14.1 259 x0 0) = 33 then ((zf_51_53 x0 x1 s14)) else (if (s14.1 259 x0 0) = 63 then ((zf_51_53 x0 x1 s14)) else ((zf_51_70 x0 x1 s14))))
def zf_47_106 (x0 : Nat) (x1 : Int) (x2 : Int) (s0 : Nat) (s1 : Int) (s2 : Int) (s : zS) : zR := zW 459 s0 48 s1 s2 s fun s2 => zC (zf_38 x0 s2) fun _ s4 => if x2 = 87 then (zz 1 s4) else (if x2 = 98 then (zz 1 s4) else (if x2 = 110 then (zC (zf_49 x0 x1 s4) fun v40 s39 => zz v40 s39) else (if x2 = 114 then (zO (s4.1 257 x0 0) s4 fun q14 => zO (s4.1 257 x0 0) s4 fun q18 => zW 463 q14 48 x1 (s4.1 451 q18 0) s4 fun s23 => zO (s23.1 257 x0 0) s23 fun q24 => zO (s23.1 257 x0 0) s23 fun q28 => zg ((s23.1 451 q28 0) + 1) (zW 464 q24 48 x1 ((s23.1 451 q28 0) + 1) s23 fun s34 => zC (zf_48 x0 s34) fun v37 s36 => zz v37 s36)) else (if x2 = 115 then (zC (zf_39 x0 40 s4) fun v7 s6 => if v7 = 0 then (zz 0 s6) else (zC (zf_52 x0 x1 s6) fun v10 s9 => if v10 = 0 then (zz 0 s9) else (zC (zf_39 x0 41 s9) fun v13 s12 => if v13 = 0 then (zz 0 s12) else (zz 1 s12)))) else (if x2 = 119 then (zz 1 s4) else (if x2 = 122 then (zz 1 s4) else (zz 0 s4)))))))
def zf_47_20 (x0 : Nat) (x1 : Int) (x2 : Int) (s : zS) : zR := zC (zf_40 x0 s) fun v3 s2 => if v3 = 0 then (zO (s2.1 257 x0 0) s2 fun q4 => zW 458 q4 48 x1 x2 s2 fun s9 => zO (s9.1 257 x0 0) s9 fun q10 => if x2 = 119 then ((zf_47_106 x0 x1 x2 q10 x1 16 s9)) else (if x2 = 87 then ((zf_47_106 x0 x1 x2 q10 x1 16 s9)) else ((zf_47_106 x0 x1 x2 q10 x1 8 s9)))) else (zO (s2.1 257 x0 0) s2 fun q14 => zW 458 q14 48 x1 65 s2 fun s19 => zC (zf_50 x0 x1 s19) fun v22 s21 => if v22 = 0 then (zz 0 s21) else (if (s21.1 259 x0 0) = 91 then (zC (zf_51 x0 x1 s21) fun v25 s24 => if v25 = 0 then (zz 0 s24) else (zz 1 s24)) else (zz 1 s21)))
/-- HexTemplates$Parser.parseType(I)Z -/
def zf_47 (x0 : Nat) (x1 : Int) (s : zS) : zR := if (s.1 259 x0 0) = 110 then ((zf_47_20 x0 x1 (s.1 259 x0 0) s)) else (if (s.1 261 x0 0) = 0 then ((zf_47_20 x0 x1 (s.1 259 x0 0) s)) else (zz 0 s))
def zf_54_88 (x0 : Nat) (x1 : Int) (s : zS) : zR := zO (s.1 257 x0 0) s fun q1 => zW 467 q1 48 x1 (s.1 259 x0 0) s fun s6 => zC (zf_38 x0 s6) fun _ s8 => zO (s8.1 257 x0 0) s8 fun q9 => zg ((s8.1 259 x0 0) - 97) (zW 468 q9 48 x1 ((s8.1 259 x0 0) - 97) s8 fun s15 => zC (zf_38 x0 s15) fun _ s17 => zz 1 s17)
/-- HexTemplates$Parser.parseRelation(I)Z -/
def zf_54 (x0 : Nat) (x1 : Int) (s : zS) : zR := zO (s.1 257 x0 0) s fun q1 => zC (zf_101 q1 x1 s) fun v7 s6 => if v7 = 0 then (zz 0 s6) else (zC (zf_38 x0 s6) fun _ s9 => zC (zf_41 x0 s9) fun v12 s11 => if v12 = 0 then (if (s11.1 259 x0 0) = 35 then ((zf_54_88 x0 x1 s11)) else (if (s11.1 259 x0 0) = 37 then ((zf_54_88 x0 x1 s11)) else (if (s11.1 259 x0 0) = 43 then ((zf_54_88 x0 x1 s11)) else (if (s11.1 259 x0 0) = 94 then ((zf_54_88 x0 x1 s11)) else (zz 0 s11))))) else (zO (s11.1 257 x0 0) s11 fun q13 => zW 467 q13 48 x1 61 s11 fun s18 => zO (s18.1 257 x0 0) s18 fun q19 => zC (zf_53 x0 s18) fun v25 s24 => zW 468 q19 48 x1 v25 s24 fun s27 => zz 1 s27))
def zf_46_98 (x0 : Nat) (s : zS) : zR := zO (s.1 257 x0 0) s fun q1 => zn (s.1 260 x0 0) 6 (zg ((s.1 453 q1 (s.1 260 x0 0)) + 1) (zW 453 q1 6 (s.1 260 x0 0) ((s.1 453 q1 (s.1 260 x0 0)) + 1) s fun s7 => zC (zf_39 x0 59 s7) fun v10 s9 => zz v10 s9))
/-- HexTemplates$Parser.parseField(I)Z -/
def zf_46 (x0 : Nat) (x1 : Int) (s : zS) : zR := zg ((s.1 259 x0 0) - 97) (if ((s.1 259 x0 0) - 97) < 0 then (zz 0 s) else (if 26 ≤ ((s.1 259 x0 0) - 97) then (zz 0 s) else (zO (s.1 257 x0 0) s fun q2 => zC (zf_98 q2 (s.1 260 x0 0) ((s.1 259 x0 0) - 97) s) fun v8 s7 => if v8 = (-1) then (zC (zf_38 x0 s7) fun _ s10 => zC (zf_39 x0 58 s10) fun v13 s12 => if v13 = 0 then (zz 0 s12) else (zC (zf_47 x0 x1 s12) fun v16 s15 => if v16 = 0 then (zz 0 s15) else (zO (s15.1 257 x0 0) s15 fun q17 => zW 457 q17 48 x1 ((s.1 259 x0 0) - 97) s15 fun s22 => zO (s22.1 257 x0 0) s22 fun q23 => zW 467 q23 48 x1 0 s22 fun s28 => if (s28.1 259 x0 0) = 61 then (zC (zf_54 x0 x1 s28) fun v31 s30 => if v31 = 0 then (zz 0 s30) else ((zf_46_98 x0 s30))) else ((zf_46_98 x0 s28))))) else (zz 0 s7))))
def zf_36_73 (zk8 : Nat → Int → zS → zR) (x0 : Nat) (x3 : Int) (s : zS) : zR := zC (zf_43 x0 s) fun v3 s2 => if v3 = 0 then (zz 0 s2) else (zg (x3 + 1) ((zk8 x0 (x3 + 1) s2)))
def zf_36_35 (zk8 : Nat → Int → zS → zR) : Nat → Nat → Int → Int → zS → zR
  | 0, _, _, _, _ => none
  | n + 1, x0, x3, x4, s => if 8 ≤ x4 then ((zf_36_73 zk8 x0 x3 s)) else (if (s.1 259 x0 0) = 125 then ((zf_36_73 zk8 x0 x3 s)) else (zg (x3 * 8) (zg ((x3 * 8) + x4) (zC (zf_46 x0 ((x3 * 8) + x4) s) fun v5 s4 => if v5 = 0 then (zz 0 s4) else (zg (x4 + 1) ((zf_36_35 zk8 n x0 x3 (x4 + 1) s4)))))))
def zf_36_88 (x0 : Nat) (s : zS) : zR := if (s.1 259 x0 0) = (-1) then (zO (s.1 257 x0 0) s fun q1 => if (s.1 449 q1 0) ≤ 0 then (zz 0 s) else (zC (zf_44 x0 s) fun v7 s6 => if v7 = 0 then (zz 0 s6) else (zz 1 s6))) else (zz 0 s)
def zf_36_8 : Nat → Nat → Int → zS → zR
  | 0, _, _, _ => none
  | n + 1, x0, x3, s => if 6 ≤ x3 then ((zf_36_88 x0 s)) else (if (s.1 259 x0 0) = (-1) then ((zf_36_88 x0 s)) else (zC (zf_42 x0 x3 s) fun v3 s2 => if v3 = 0 then (zz 0 s2) else ((zf_36_35 (fun y0 y1 y => (zf_36_8 n y0 y1 y)) xfu x0 x3 0 s2))))
/-- HexTemplates$Parser.parse(LHexTemplates$Bytes;LHexTemplates$Template;)Z -/
def zf_36 (x0 : Nat) (x1 : Nat) (x2 : Int) (s : zS) : zR := zC (zf_37 x0 x1 x2 s) fun _ s2 => (zf_36_8 xfu x0 0 s2)
def zf_130_38 (x0 : Nat) (s : zS) : zR := zn (s.1 522 x0 0) 4 (zi (s.1 515 x0 (s.1 522 x0 0)) s)
def zf_107_49 (x0 : Nat) (x1 : Int) (x2 : Int) (s0 : Int) (s : zS) : zR := zP 1 0 0 0 s fun s2 => if s0 = 0 then (zt 1 s2) else (zO x2 s2 fun q3 => zP 448 q3 0 x1 s2 fun s8 => zP 523 x0 0 (-3) s8 fun s10 => zg ((s10.1 522 x0 0) + 1) (zP 522 x0 0 ((s10.1 522 x0 0) + 1) s10 fun s12 => zg ((s12.1 522 x0 0) - 1) (zi ((s12.1 522 x0 0) - 1) s12)))
/-- a template more, all of it 0 -/
def zmk (s : zS) : zS := (fun f n i => if (448 ≤ f ∧ f < 512) ∧ n = s.2.1 then 0 else s.1 f n i, s.2.1 + 1, s.2.2)
/-- HexTemplates.nextTemplate() -/
def zf_130 (x0 : Nat) (s : zS) : zR := if (s.1 522 x0 0) < 4 then zn (s.1 522 x0 0) 4 (if s.1 515 x0 (s.1 522 x0 0) = 0 then (if s.2.1 < 4 then zW 515 x0 4 (s.1 522 x0 0) ((s.2.1 : Int) + 1) (zmk s) fun s1 => zf_130_38 x0 s1 else none) else zf_130_38 x0 s) else zi 0 s
/-- HexTemplates.template(I)I -/
def zf_107 (x0 : Nat) (x1 : Int) (s : zS) : zR := if x1 < 0 then (zt 0 s) else (if x1 ≤ 9 then (zC (zf_130 x0 s) fun v3 s2 => zIf v3 s2 ((zf_107_49 x0 x1 0 0 s2)) fun q4 => zC (zf_36 0 0 ((q4 : Int) + 1) s2) fun v10 s9 => if v10 = 0 then ((zf_107_49 x0 x1 ((q4 : Int) + 1) 0 s9)) else ((zf_107_49 x0 x1 ((q4 : Int) + 1) 1 s9))) else (zt 0 s))
/-- HexTemplatesLaw.template(LHexTemplates;I[J)I -/
def zf_233 (x0 : Nat) (x1 : Int) (x2 : Nat) (s : zS) : zR := zCh (zf_107 x0 x1 s) (fun v3 s2 => zW 1000 x2 1 0 v3 s2 fun s5 => zi 0 s5) fun e s7 => match e with | 0 => zi 1 s7 | 1 => zi 2 s7 | 2 => some (.inr 2, s7) | e + 3 => some (.inr (e + 3), s7)
/-- HexTemplates.byteAt(I)I -/
def zf_109 (x0 : Nat) (x1 : Int) (s : zS) : zR := if x1 < 0 then (zt 2 s) else (if x1 < (s.1 1 1 0) then (zC (zf_2 1 x1 s) fun v3 s2 => zi v3 s2) else (zt 2 s))
/-- HexTemplatesLaw.byteAt(LHexTemplates;I[J)I -/
def zf_234 (x0 : Nat) (x1 : Int) (x2 : Nat) (s : zS) : zR := zCh (zf_109 x0 x1 s) (fun v3 s2 => zW 1000 x2 1 0 v3 s2 fun s5 => zi 0 s5) fun e s7 => match e with | 0 => some (.inr 0, s7) | 1 => some (.inr 1, s7) | 2 => zi 1 s7 | e + 3 => some (.inr (e + 3), s7)
/-- HexTemplates$States.has(I)Z -/
def zf_89 (x0 : Nat) (x1 : Int) (s : zS) : zR := if x1 < 0 then (zz 0 s) else (if (s.1 387 x0 0) ≤ x1 then (zz 0 s) else (zz 1 s))
/-- HexTemplates$States.parentOf(I)I -/
def zf_90 (x0 : Nat) (x1 : Int) (s : zS) : zR := zC (zf_89 x0 x1 s) fun v3 s2 => if v3 = 0 then (zi (-1) s2) else (zn x1 30 (zi (s2.1 386 x0 x1) s2))
/-- HexTemplates.checkState(I)V -/
def zf_134 (x0 : Nat) (x1 : Int) (s : zS) : zR := if x1 < 0 then (zt 2 s) else (if x1 < (s.1 387 0 0) then (zi 0 s) else (zt 2 s))
/-- HexTemplates.parent(I)I -/
def zf_111 (x0 : Nat) (x1 : Int) (s : zS) : zR := zC (zf_134 x0 x1 s) fun _ s2 => zC (zf_90 0 x1 s2) fun v5 s4 => zi v5 s4
/-- HexTemplatesLaw.parent(LHexTemplates;I[J)I -/
def zf_235 (x0 : Nat) (x1 : Int) (x2 : Nat) (s : zS) : zR := zCh (zf_111 x0 x1 s) (fun v3 s2 => zW 1000 x2 1 0 v3 s2 fun s5 => zi 0 s5) fun e s7 => match e with | 0 => some (.inr 0, s7) | 1 => some (.inr 1, s7) | 2 => zi 1 s7 | e + 3 => some (.inr (e + 3), s7)
/-- HexTemplates$States.sizeOf(I)I -/
def zf_91 (x0 : Nat) (x1 : Int) (s : zS) : zR := zC (zf_89 x0 x1 s) fun v3 s2 => if v3 = 0 then (zi 0 s2) else (zn x1 30 (zi (s2.1 385 x0 x1) s2))
/-- HexTemplates$States.get(II)I -/
def zf_92 (x0 : Nat) (x1 : Int) (x2 : Int) (s : zS) : zR := if x2 < 0 then (zi 0 s) else (zC (zf_91 x0 x1 s) fun v3 s2 => if v3 ≤ x2 then (zi 0 s2) else (zg (x1 * 160) (zg ((x1 * 160) + x2) (zn ((x1 * 160) + x2) 4800 (zi (s2.1 384 x0 ((x1 * 160) + x2)) s2)))))
def zf_94_14 : Nat → Nat → Int → Nat → Int → Int → zS → zR
  | 0, _, _, _, _, _, _ => none
  | n + 1, x0, x1, x2, x3, x4, s => if x3 ≤ x4 then (zi 0 s) else (zC (zf_92 x0 x1 x4 s) fun v3 s2 => zC (zf_4 x2 v3 s2) fun _ s5 => zg (x4 + 1) ((zf_94_14 n x0 x1 x2 x3 (x4 + 1) s5)))
/-- HexTemplates$States.load(ILHexTemplates$Bytes;)V -/
def zf_94 (x0 : Nat) (x1 : Int) (x2 : Nat) (s : zS) : zR := zC (zf_91 x0 x1 s) fun v3 s2 => zP 1 x2 0 0 s2 fun s5 => (zf_94_14 xfu x0 x1 x2 v3 0 s5)
/-- HexTemplates.goTo(I)I -/
def zf_112 (x0 : Nat) (x1 : Int) (s : zS) : zR := zC (zf_134 x0 x1 s) fun _ s2 => zP 388 0 0 x1 s2 fun s4 => zC (zf_94 0 x1 1 s4) fun _ s6 => zP 523 x0 0 (-3) s6 fun s8 => zi (s8.1 1 1 0) s8
/-- HexTemplatesLaw.goTo(LHexTemplates;I[J)I -/
def zf_236 (x0 : Nat) (x1 : Int) (x2 : Nat) (s : zS) : zR := zCh (zf_112 x0 x1 s) (fun v3 s2 => zW 1000 x2 1 0 v3 s2 fun s5 => zi 0 s5) fun e s7 => match e with | 0 => some (.inr 0, s7) | 1 => some (.inr 1, s7) | 2 => zi 1 s7 | e + 3 => some (.inr (e + 3), s7)
/-- HexTemplates.fault(IZ)I -/
def zf_114 (x0 : Nat) (x1 : Int) (x2 : Int) (s : zS) : zR := if x1 < 0 then (zt 2 s) else (if x1 < (s.1 522 x0 0) then (zn x1 4 (zC (zf_56 1 (s.1 515 x0 x1) 1 0 0 s) fun v3 s2 => if x2 = 0 then (zi (s2.1 325 1 0) s2) else (zi (s2.1 326 1 0) s2))) else (zt 2 s))
/-- HexTemplatesLaw.fault(LHexTemplates;IZ[J)I -/
def zf_237 (x0 : Nat) (x1 : Int) (x2 : Int) (x3 : Nat) (s : zS) : zR := zCh (zf_114 x0 x1 x2 s) (fun v3 s2 => zW 1000 x3 1 0 v3 s2 fun s5 => zi 0 s5) fun e s7 => match e with | 0 => some (.inr 0, s7) | 1 => some (.inr 1, s7) | 2 => zi 1 s7 | e + 3 => some (.inr (e + 3), s7)
/-- HexTemplates$Reader.holds(I)Z -/
def zf_79 (x0 : Nat) (x1 : Int) (s : zS) : zR := zn x1 200 (zC (zf_78 x0 x1 s) fun v3 s2 => if (s.1 196 x0 x1) = v3 then (zz 1 s2) else (zz 0 s2))
/-- HexTemplates.checkNode(I)V -/
def zf_135 (x0 : Nat) (x1 : Int) (s : zS) : zR := zC (zf_133 x0 s) fun _ s2 => zC (zf_27 0 x1 s2) fun v5 s4 => if v5 = 0 then (zt 2 s4) else (zi 0 s4)
/-- HexTemplates.node(II)I -/
def zf_116 (x0 : Nat) (x1 : Int) (x2 : Int) (s : zS) : zR := zC (zf_135 x0 x1 s) fun _ s2 => if x2 < 0 then (zt 0 s2) else (if x2 ≤ 6 then (if x2 = 0 then (zn x1 200 (zi (s2.1 192 0 x1) s2)) else (if x2 = 1 then (zn x1 200 (zi (s2.1 193 0 x1) s2)) else (if x2 = 2 then (zn x1 200 (zi (s2.1 194 0 x1) s2)) else (if x2 = 3 then (zn x1 200 (zi (s2.1 195 0 x1) s2)) else (if x2 = 4 then (zn x1 200 (zi (s2.1 196 0 x1) s2)) else (if x2 = 5 then (zn x1 200 (zi (s2.1 197 0 x1) s2)) else (zC (zf_79 0 x1 s2) fun v5 s4 => if v5 = 0 then (zi 0 s4) else (zi 1 s4)))))))) else (zt 0 s2))
/-- HexTemplatesLaw.node(LHexTemplates;II[J)I -/
def zf_238 (x0 : Nat) (x1 : Int) (x2 : Int) (x3 : Nat) (s : zS) : zR := zCh (zf_116 x0 x1 x2 s) (fun v3 s2 => zW 1000 x3 1 0 v3 s2 fun s5 => zi 0 s5) fun e s7 => match e with | 0 => zi 2 s7 | 1 => some (.inr 1, s7) | 2 => zi 1 s7 | e + 3 => some (.inr (e + 3), s7)
/-- HexTemplates$Reader.structureTold(I)I -/
def zf_82 (x0 : Nat) (x1 : Int) (s : zS) : zR := if x1 < 0 then (zi (-1) s) else (if x1 < 48 then (zO (s.1 321 x0 0) s fun q1 => zO (s.1 321 x0 0) s fun q5 => zn x1 48 (zn (s.1 463 q5 x1) 100 (zi (s.1 456 q1 (s.1 463 q5 x1)) s))) else (zi (-1) s))
/-- HexTemplates.checkReference(I)V -/
def zf_136 (x0 : Nat) (x1 : Int) (s : zS) : zR := zn x1 200 (if (s.1 192 0 x1) = 3 then (zi 0 s) else (zt 1 s))
/-- HexTemplates.follow(I)I -/
def zf_119 (x0 : Nat) (x1 : Int) (s : zS) : zR := zC (zf_135 x0 x1 s) fun _ s2 => zC (zf_136 x0 x1 s2) fun _ s4 => zC (zf_132 x0 s4) fun v7 s6 => zn x1 200 (zC (zf_82 0 (s6.1 198 0 x1) s6) fun v10 s9 => zn x1 200 (zC (zf_56 1 v7 1 v10 (s9.1 196 0 x1) s9) fun v13 s12 => if v13 = 0 then (zi (-1) s12) else (zg ((s12.1 323 1 0) - (s9.1 196 0 x1)) (zi ((s12.1 323 1 0) - (s9.1 196 0 x1)) s12))))
/-- HexTemplatesLaw.follow(LHexTemplates;I[J)I -/
def zf_239 (x0 : Nat) (x1 : Int) (x2 : Nat) (s : zS) : zR := zCh (zf_119 x0 x1 s) (fun v3 s2 => zW 1000 x2 1 0 v3 s2 fun s5 => zi 0 s5) fun e s7 => match e with | 0 => some (.inr 0, s7) | 1 => zi 2 s7 | 2 => zi 1 s7 | e + 3 => some (.inr (e + 3), s7)
def zf_32_4 : Nat → Nat → Int → Int → zS → zR
  | 0, _, _, _, _ => none
  | n + 1, x0, x1, x2, s => if (s.1 199 x0 0) ≤ x2 then (zi (-1) s) else (zn x2 200 (if (s.1 197 x0 x2) = x1 then (zn x2 200 (if (s.1 192 x0 x2) = 3 then (zi x2 s) else (zg (x2 + 1) ((zf_32_4 n x0 x1 (x2 + 1) s))))) else (zg (x2 + 1) ((zf_32_4 n x0 x1 (x2 + 1) s)))))
/-- HexTemplates$Nodes.firstReferenceIn(I)I -/
def zf_32 (x0 : Nat) (x1 : Int) (s : zS) : zR := zg (x1 + 1) ((zf_32_4 xfu x0 x1 (x1 + 1) s))
def zf_141_2 : Nat → Nat → Int → zS → zR
  | 0, _, _, _ => none
  | n + 1, x0, x1, s => if (1536 : Int) ≤ x1 then (zi 0 s) else (zWz 521 x0 1536 x1 0 s fun s2 => zg (x1 + 1) ((zf_141_2 n x0 (x1 + 1) s2)))
/-- HexTemplates.forgetVisits()V -/
def zf_141 (x0 : Nat) (s : zS) : zR := (zf_141_2 xfu x0 0 s)
/-- HexTemplates.isVisited(II)Z -/
def zf_142 (x0 : Nat) (x1 : Int) (x2 : Int) (s : zS) : zR := zg (x1 * 256) (zg ((x1 * 256) + x2) (if ((x1 * 256) + x2) < 0 then (zz 0 s) else (if ((x1 * 256) + x2) < (1536 : Int) then (zn ((x1 * 256) + x2) 1536 (zWz 521 x0 1536 ((x1 * 256) + x2) 1 s fun s4 => zz (s.1 521 x0 ((x1 * 256) + x2)) s4)) else (zz 0 s))))
def zf_120_59 : Nat → Nat → Int → Int → Int → Int → Int → zS → zR
  | 0, _, _, _, _, _, _, _ => none
  | n + 1, x0, x2, x3, x4, x5, x6, s => if (1536 : Int) ≤ x6 then (zi (-2) s) else (zC (zf_142 x0 x3 x4 s) fun v3 s2 => if v3 = 0 then (zC (zf_56 1 x2 1 x3 x4 s2) fun v6 s5 => if v6 = 0 then (zi x5 s5) else (zC (zf_32 1 0 s5) fun v9 s8 => if v9 = (-1) then (zg (x5 + 1) (zi (x5 + 1) s8)) else (zn v9 200 (zC (zf_82 1 (s8.1 198 1 v9) s8) fun v12 s11 => zn v9 200 (zg (x5 + 1) (zg (x6 + 1) ((zf_120_59 n x0 x2 v12 (s11.1 196 1 v9) (x5 + 1) (x6 + 1) s11)))))))) else (zi (-2) s2))
/-- HexTemplates.chain(I)I -/
def zf_120 (x0 : Nat) (x1 : Int) (s : zS) : zR := zC (zf_135 x0 x1 s) fun _ s2 => zC (zf_136 x0 x1 s2) fun _ s4 => zC (zf_132 x0 s4) fun v7 s6 => zn x1 200 (zC (zf_82 0 (s6.1 198 0 x1) s6) fun v10 s9 => zn x1 200 (zC (zf_141 x0 s9) fun _ s12 => (zf_120_59 xfu x0 v7 v10 (s9.1 196 0 x1) 0 0 s12)))
/-- HexTemplatesLaw.chain(LHexTemplates;I[J)I -/
def zf_240 (x0 : Nat) (x1 : Int) (x2 : Nat) (s : zS) : zR := zCh (zf_120 x0 x1 s) (fun v3 s2 => zW 1000 x2 1 0 v3 s2 fun s5 => zi 0 s5) fun e s7 => match e with | 0 => some (.inr 0, s7) | 1 => zi 2 s7 | 2 => zi 1 s7 | e + 3 => some (.inr (e + 3), s7)
def zf_121_46 : Nat → Nat → Int → Int → Int → zS → zR
  | 0, _, _, _, _, _ => none
  | n + 1, x0, x1, x2, x4, s => if (s.1 1 1 0) ≤ x4 then (zi (-1) s) else (zC (zf_2 1 x4 s) fun v3 s2 => if (zand v3 x2) = (zand x1 x2) then (zi x4 s2) else (zg (x4 + 1) ((zf_121_46 n x0 x1 x2 (x4 + 1) s2))))
/-- HexTemplates.find(III)I -/
def zf_121 (x0 : Nat) (x1 : Int) (x2 : Int) (x3 : Int) (s : zS) : zR := if x1 < 0 then (zt 0 s) else (if 255 < x1 then (zt 0 s) else (if x2 < 0 then (zt 0 s) else (if 255 < x2 then (zt 0 s) else (if x3 < 0 then (zt 0 s) else (if x3 ≤ 200 then ((zf_121_46 xfu x0 x1 x2 x3 s)) else (zt 0 s))))))
/-- HexTemplatesLaw.find(LHexTemplates;III[J)I -/
def zf_241 (x0 : Nat) (x1 : Int) (x2 : Int) (x3 : Int) (x4 : Nat) (s : zS) : zR := zCh (zf_121 x0 x1 x2 x3 s) (fun v3 s2 => zW 1000 x4 1 0 v3 s2 fun s5 => zi 0 s5) fun e s7 => match e with | 0 => zi 1 s7 | 1 => some (.inr 1, s7) | 2 => some (.inr 2, s7) | e + 3 => some (.inr (e + 3), s7)
/-- HexTemplates$Nodes.isNumeric(I)Z -/
def zf_30 (x0 : Nat) (x1 : Int) (s : zS) : zR := zC (zf_27 x0 x1 s) fun v3 s2 => if v3 = 0 then (zz 0 s2) else (zn x1 200 (if (s2.1 192 x0 x1) = 2 then (zz 1 s2) else (zn x1 200 (if (s2.1 192 x0 x1) = 3 then (zz 1 s2) else (zn x1 200 (if (s2.1 192 x0 x1) = 4 then (zz 1 s2) else (zz 0 s2)))))))
def zf_122_57 : Nat → Int → Int → Nat → Int → zS → zR
  | 0, _, _, _, _, _ => none
  | n + 1, x1, x2, x4, x5, s => if (s.1 199 x4 0) ≤ x5 then (zi (-1) s) else (zC (zf_30 x4 x5 s) fun v3 s2 => if v3 = 0 then (zg (x5 + 1) ((zf_122_57 n x1 x2 x4 (x5 + 1) s2))) else (zn x5 200 (if (s2.1 193 x4 x5) = x1 then (zn x5 200 (if (s2.1 196 x4 x5) = x2 then (zi x5 s2) else (zg (x5 + 1) ((zf_122_57 n x1 x2 x4 (x5 + 1) s2))))) else (zg (x5 + 1) ((zf_122_57 n x1 x2 x4 (x5 + 1) s2))))))
/-- HexTemplates.findField(III)I -/
def zf_122 (x0 : Nat) (x1 : Int) (x2 : Int) (x3 : Int) (s : zS) : zR := if x1 < 0 then (zt 0 s) else (if 26 ≤ x1 then (zt 0 s) else (if x2 < 0 then (zt 0 s) else (if 65535 < x2 then (zt 0 s) else (if x3 < 0 then (zt 0 s) else (if x3 ≤ 200 then (zC (zf_133 x0 s) fun _ s2 => (zf_122_57 xfu x1 x2 0 x3 s2)) else (zt 0 s))))))
/-- HexTemplatesLaw.findField(LHexTemplates;III[J)I -/
def zf_242 (x0 : Nat) (x1 : Int) (x2 : Int) (x3 : Int) (x4 : Nat) (s : zS) : zR := zCh (zf_122 x0 x1 x2 x3 s) (fun v3 s2 => zW 1000 x4 1 0 v3 s2 fun s5 => zi 0 s5) fun e s7 => match e with | 0 => zi 1 s7 | 1 => some (.inr 1, s7) | 2 => some (.inr 2, s7) | e + 3 => some (.inr (e + 3), s7)
/-- HexTemplates$Editor.begin(LHexTemplates$Bytes;)V -/
def zf_10 (x0 : Nat) (x1 : Nat) (s : zS) : zR := zC (zf_5 2 x1 s) fun _ s2 => zi 0 s2
/-- HexTemplates$Bytes.put(II)V -/
def zf_3 (x0 : Nat) (x1 : Int) (x2 : Int) (s : zS) : zR := if x1 < 0 then (zi 0 s) else (if (s.1 1 x0 0) ≤ x1 then (zi 0 s) else (zW 0 x0 (zlB x0) x1 x2 s fun s2 => zi 0 s2))
def zf_81_24 (x0 : Nat) (s0 : Int) (s : zS) : zR := if s0 = (-1) then (zi 65 s) else (zO (s.1 321 x0 0) s fun q1 => zn s0 48 (zi (s.1 458 q1 s0) s))
/-- HexTemplates$Reader.typeOf(I)I -/
def zf_81 (x0 : Nat) (x1 : Int) (s : zS) : zR := zC (zf_27 x0 x1 s) fun v3 s2 => if v3 = 0 then ((zf_81_24 x0 (-1) s2)) else (zn x1 200 ((zf_81_24 x0 (s2.1 198 x0 x1) s2)))
def zf_83_24 (x0 : Nat) (s0 : Int) (s : zS) : zR := if s0 = (-1) then (zi (-1) s) else (zO (s.1 321 x0 0) s fun q1 => zn s0 48 (zg ((zshl 1 (s.1 459 q1 s0)) - 1) (zi ((zshl 1 (s.1 459 q1 s0)) - 1) s)))
/-- HexTemplates$Reader.greatest(I)I -/
def zf_83 (x0 : Nat) (x1 : Int) (s : zS) : zR := zC (zf_27 x0 x1 s) fun v3 s2 => if v3 = 0 then ((zf_83_24 x0 (-1) s2)) else (zn x1 200 ((zf_83_24 x0 (s2.1 198 x0 x1) s2)))
/-- HexTemplates$Reader.shiftOf(I)I -/
def zf_84 (x0 : Nat) (x1 : Int) (s : zS) : zR := zC (zf_81 x0 x1 s) fun v3 s2 => if v3 = 110 then (zO (s2.1 321 x0 0) s2 fun q4 => zn x1 200 (zn (s2.1 198 x0 x1) 48 (zi (s2.1 460 q4 (s2.1 198 x0 x1)) s2))) else (zi 0 s2)
/-- HexTemplates$Editor.write(LHexTemplates$Reader;II)V -/
def zf_11 (x0 : Nat) (x1 : Nat) (x2 : Int) (x3 : Int) (s : zS) : zR := zn x2 200 (zC (zf_81 x1 x2 s) fun v3 s2 => if v3 = 87 then (zC (zf_3 2 (s.1 194 x1 x2) (zshr x3 8) s2) fun _ s23 => zg ((s.1 194 x1 x2) + 1) (zC (zf_3 2 ((s.1 194 x1 x2) + 1) (zand x3 255) s23) fun _ s26 => zi 0 s26)) else (if v3 = 110 then (zC (zf_84 x1 x2 s2) fun v13 s12 => zC (zf_2 2 (s.1 194 x1 x2) s12) fun v16 s15 => zC (zf_83 x1 x2 s15) fun v19 s18 => zC (zf_3 2 (s.1 194 x1 x2) (zor (zand v16 (zxor (zshl v19 v13) (-1))) (zshl x3 v13)) s18) fun _ s21 => zi 0 s21) else (if v3 = 119 then (zC (zf_3 2 (s.1 194 x1 x2) (zand x3 255) s2) fun _ s7 => zg ((s.1 194 x1 x2) + 1) (zC (zf_3 2 ((s.1 194 x1 x2) + 1) (zshr x3 8) s7) fun _ s10 => zi 0 s10)) else (zC (zf_3 2 (s.1 194 x1 x2) x3 s2) fun _ s5 => zi 0 s5))))
/-- HexTemplates.isFree(I)Z -/
def zf_139 (x0 : Nat) (x1 : Int) (s : zS) : zR := zC (zf_30 0 x1 s) fun v3 s2 => if v3 = 0 then (zz 0 s2) else (zC (zf_76 0 x1 s2) fun v6 s5 => if v6 = 0 then (zz 1 s5) else (zz 0 s5))
def zf_16_43 (zk4 : Nat → Nat → Int → Int → zS → zR) (x0 : Nat) (x1 : Nat) (x2 : Int) (x3 : Int) (x5 : Int) (s : zS) : zR := zn x3 200 (if (s.1 196 x1 x3) = x5 then (zg (x3 + 1) ((zk4 x0 x1 x2 (x3 + 1) s))) else (zC (zf_11 x0 x1 x3 x5 s) fun _ s3 => zg (x2 + 1) (zg (x3 + 1) ((zk4 x0 x1 (x2 + 1) (x3 + 1) s3)))))
def zf_16_4 : Nat → Nat → Nat → Int → Int → zS → zR
  | 0, _, _, _, _, _ => none
  | n + 1, x0, x1, x2, x3, s => if (s.1 199 x1 0) ≤ x3 then (zi x2 s) else (zC (zf_76 x1 x3 s) fun v3 s2 => zC (zf_78 x1 x3 s2) fun v6 s5 => if v3 = 35 then ((zf_16_43 (fun y0 y1 y2 y3 y => (zf_16_4 n y0 y1 y2 y3 y)) x0 x1 x2 x3 v6 s5)) else (if v3 = 37 then ((zf_16_43 (fun y0 y1 y2 y3 y => (zf_16_4 n y0 y1 y2 y3 y)) x0 x1 x2 x3 v6 s5)) else (zg (x3 + 1) ((zf_16_4 n x0 x1 x2 (x3 + 1) s5)))))
/-- HexTemplates$Editor.mendCounts(LHexTemplates$Reader;)I -/
def zf_16 (x0 : Nat) (x1 : Nat) (s : zS) : zR := (zf_16_4 xfu x0 x1 0 0 s)
def zf_15_2 : Nat → Nat → Nat → Int → Int → zS → zR
  | 0, _, _, _, _, _ => none
  | n + 1, x0, x1, x2, x3, s => if 4 < x3 then (zz 0 s) else (zC (zf_56 x1 x2 2 0 0 s) fun v3 s2 => if v3 = 0 then (zz 0 s2) else (zC (zf_16 x0 x1 s2) fun v6 s5 => if v6 = 0 then (zz 1 s5) else (zg (x3 + 1) ((zf_15_2 n x0 x1 x2 (x3 + 1) s5)))))
/-- HexTemplates$Editor.settleCounts(LHexTemplates$Reader;LHexTemplates$Template;)Z -/
def zf_15 (x0 : Nat) (x1 : Nat) (x2 : Int) (s : zS) : zR := (zf_15_2 xfu x0 x1 x2 0 s)
def zf_19_2 : Nat → Nat → Nat → Int → Int → zS → zR
  | 0, _, _, _, _, _ => none
  | n + 1, x0, x1, x2, x3, s => zC (zf_27 x1 x3 s) fun v3 s2 => if v3 = 0 then (zz 0 s2) else (zn x3 200 (zn x2 200 (zn x2 200 (zg ((s2.1 194 x1 x2) + (s2.1 195 x1 x2)) (if ((s2.1 194 x1 x2) + (s2.1 195 x1 x2)) ≤ (s2.1 194 x1 x3) then (zz 0 s2) else (zn x3 200 (if (s2.1 65 x0 x3) = 0 then (zg (x3 + 1) ((zf_19_2 n x0 x1 x2 (x3 + 1) s2))) else (zz 1 s2))))))))
/-- HexTemplates$Editor.hasLeftIn(LHexTemplates$Nodes;I)Z -/
def zf_19 (x0 : Nat) (x1 : Nat) (x2 : Int) (s : zS) : zR := (zf_19_2 xfu x0 x1 x2 x2 s)
def zf_18_2 : Nat → Nat → Nat → Int → zS → zR
  | 0, _, _, _, _ => none
  | n + 1, x0, x1, x2, s => if (s.1 199 x1 0) ≤ x2 then (zi (-1) s) else (zn x2 200 (if (s.1 65 x0 x2) = 0 then (zg (x2 + 1) ((zf_18_2 n x0 x1 (x2 + 1) s))) else (zC (zf_77 x1 x2 s) fun v4 s3 => zC (zf_19 x0 x1 v4 s3) fun v7 s6 => if v7 = 0 then (zi x2 s6) else (zg (x2 + 1) ((zf_18_2 n x0 x1 (x2 + 1) s6))))))
/-- HexTemplates$Editor.firstReady(LHexTemplates$Reader;)I -/
def zf_18 (x0 : Nat) (x1 : Nat) (s : zS) : zR := (zf_18_2 xfu x0 x1 0 s)
def zf_17_52 (zk10 : Nat → Nat → Nat → Int → Int → zS → zR) (x0 : Nat) (x1 : Nat) (x2 : Nat) (x3 : Int) (x4 : Int) (s0 : Nat) (s1 : Int) (s2 : Int) (s : zS) : zR := zWz 65 s0 200 s1 s2 s fun s2 => zn x4 200 (if (s2.1 65 x0 x4) = 0 then (zg (x3 + 0) (zg (x4 + 1) ((zk10 x0 x1 x2 (x3 + 0) (x4 + 1) s2)))) else (zg (x3 + 1) (zg (x4 + 1) ((zk10 x0 x1 x2 (x3 + 1) (x4 + 1) s2)))))
def zf_17_80 : Nat → Nat → Nat → Int → zS → zR
  | 0, _, _, _, _ => none
  | n + 1, x0, x1, x4, s => if x4 ≤ 0 then (zz 1 s) else (zC (zf_18 x0 x1 s) fun v3 s2 => if v3 = (-1) then (zz 0 s2) else (zC (zf_78 x1 v3 s2) fun v6 s5 => zC (zf_11 x0 x1 v3 v6 s5) fun _ s8 => zWz 65 x0 200 v3 0 s8 fun s10 => zg (x4 + (-1)) ((zf_17_80 n x0 x1 (x4 + (-1)) s10))))
def zf_17_10 : Nat → Nat → Nat → Nat → Int → Int → zS → zR
  | 0, _, _, _, _, _, _ => none
  | n + 1, x0, x1, x2, x3, x4, s => if (s.1 199 x2 0) ≤ x4 then ((zf_17_80 xfu x0 x1 x3 s)) else (zC (zf_76 x1 x4 s) fun v3 s2 => if v3 = 43 then ((zf_17_52 (fun y0 y1 y2 y3 y4 y => (zf_17_10 n y0 y1 y2 y3 y4 y)) x0 x1 x2 x3 x4 x0 x4 1 s2)) else (if v3 = 94 then ((zf_17_52 (fun y0 y1 y2 y3 y4 y => (zf_17_10 n y0 y1 y2 y3 y4 y)) x0 x1 x2 x3 x4 x0 x4 1 s2)) else ((zf_17_52 (fun y0 y1 y2 y3 y4 y => (zf_17_10 n y0 y1 y2 y3 y4 y)) x0 x1 x2 x3 x4 x0 x4 0 s2))))
/-- HexTemplates$Editor.settleSums(LHexTemplates$Reader;)Z -/
def zf_17 (x0 : Nat) (x1 : Nat) (s : zS) : zR := (zf_17_10 xfu x0 x1 x1 0 0 s)
/-- HexTemplates$Editor.stands(LHexTemplates$Reader;LHexTemplates$Template;)Z -/
def zf_20 (x0 : Nat) (x1 : Nat) (x2 : Int) (s : zS) : zR := zC (zf_56 x1 x2 2 0 0 s) fun v3 s2 => if v3 = 0 then (zz 0 s2) else (zC (zf_80 x1 s2) fun v6 s5 => if v6 = 0 then (zz 1 s5) else (zz 0 s5))
/-- HexTemplates.finishEdit()I -/
def zf_140 (x0 : Nat) (s : zS) : zR := zC (zf_132 x0 s) fun v3 s2 => zIf v3 s2 (zt 1 s2) fun q4 => zC (zf_88 0 s2) fun v10 s9 => if v10 = 0 then (zC (zf_15 0 1 ((q4 : Int) + 1) s9) fun v13 s12 => if v13 = 0 then (zt 1 s12) else (zC (zf_17 0 1 s12) fun v16 s15 => if v16 = 0 then (zt 1 s15) else (zC (zf_20 0 1 ((q4 : Int) + 1) s15) fun v19 s18 => if v19 = 0 then (zt 1 s18) else (zC (zf_5 1 2 s18) fun _ s21 => zC (zf_131 x0 s21) fun v24 s23 => zi v24 s23)))) else (zt 1 s9)
/-- HexTemplates.set(II)I -/
def zf_123 (x0 : Nat) (x1 : Int) (x2 : Int) (s : zS) : zR := zC (zf_135 x0 x1 s) fun _ s2 => zC (zf_139 x0 x1 s2) fun v5 s4 => if v5 = 0 then (zt 1 s4) else (if x2 < 0 then (zt 1 s4) else (zC (zf_83 0 x1 s4) fun v8 s7 => if x2 ≤ v8 then (zC (zf_10 0 1 s7) fun _ s10 => zC (zf_11 0 0 x1 x2 s10) fun _ s12 => zC (zf_140 x0 s12) fun v15 s14 => zi v15 s14) else (zt 1 s7)))
/-- HexTemplatesLaw.set(LHexTemplates;II[J)I -/
def zf_243 (x0 : Nat) (x1 : Int) (x2 : Int) (x3 : Nat) (s : zS) : zR := zCh (zf_123 x0 x1 x2 s) (fun v3 s2 => zW 1000 x3 1 0 v3 s2 fun s5 => zi 0 s5) fun e s7 => match e with | 0 => some (.inr 0, s7) | 1 => zi 2 s7 | 2 => zi 1 s7 | e + 3 => some (.inr (e + 3), s7)
def zf_6_39 : Nat → Nat → Int → Int → Int → zS → zR
  | 0, _, _, _, _, _ => none
  | n + 1, x0, x1, x2, x3, s => if x3 < x1 then (zg ((s.1 1 x0 0) + x2) (zP 1 x0 0 ((s.1 1 x0 0) + x2) s fun s2 => zz 1 s2)) else (zn x3 (zlB x0) (zg (x3 + x2) (zW 0 x0 (zlB x0) (x3 + x2) (s.1 0 x0 x3) s fun s6 => zg (x3 + (-1)) ((zf_6_39 n x0 x1 x2 (x3 + (-1)) s6)))))
/-- HexTemplates$Bytes.open(II)Z -/
def zf_6 (x0 : Nat) (x1 : Int) (x2 : Int) (s : zS) : zR := if x1 < 0 then (zz 0 s) else (if (s.1 1 x0 0) < x1 then (zz 0 s) else (if x2 < 0 then (zz 0 s) else (zg (((zlB x0 : Nat) : Int) - (s.1 1 x0 0)) (if x2 ≤ (((zlB x0 : Nat) : Int) - (s.1 1 x0 0)) then (zg ((s.1 1 x0 0) - 1) ((zf_6_39 xfu x0 x1 x2 ((s.1 1 x0 0) - 1) s))) else (zz 0 s)))))
def zf_34_5 : Nat → Nat → Int → Int → Int → zS → zR
  | 0, _, _, _, _, _ => none
  | n + 1, x0, x1, x3, x4, s => if 200 ≤ x4 then (zz 0 s) else (zC (zf_27 x0 x3 s) fun v3 s2 => if v3 = 0 then (zz 0 s2) else (if x3 = x1 then (zz 1 s2) else (zn x3 200 (zg (x4 + 1) ((zf_34_5 n x0 x1 (s2.1 197 x0 x3) (x4 + 1) s2))))))
/-- HexTemplates$Nodes.holds(II)Z -/
def zf_34 (x0 : Nat) (x1 : Int) (x2 : Int) (s : zS) : zR := (zf_34_5 xfu x0 x1 x2 0 s)
def zf_14_70 (zk9 : Nat → Nat → Int → Int → Int → Nat → Int → zS → zR) (x0 : Nat) (x1 : Nat) (x2 : Int) (x3 : Int) (x4 : Int) (x5 : Nat) (x6 : Int) (x7 : Int) (x8 : Int) (s : zS) : zR := if x7 = 37 then (if x8 = x2 then (zn x8 200 (zg ((s.1 196 x5 x8) + x4) (zC (zf_11 x0 x1 x6 ((s.1 196 x5 x8) + x4) s) fun _ s5 => zg (x6 + 1) ((zk9 x0 x1 x2 x3 x4 x5 (x6 + 1) s5))))) else (zg (x6 + 1) ((zk9 x0 x1 x2 x3 x4 x5 (x6 + 1) s)))) else (zg (x6 + 1) ((zk9 x0 x1 x2 x3 x4 x5 (x6 + 1) s)))
def zf_14_9 : Nat → Nat → Nat → Int → Int → Int → Nat → Int → zS → zR
  | 0, _, _, _, _, _, _, _, _ => none
  | n + 1, x0, x1, x2, x3, x4, x5, x6, s => if (s.1 199 x5 0) ≤ x6 then (zi 0 s) else (zC (zf_76 x1 x6 s) fun v3 s2 => zC (zf_77 x1 x6 s2) fun v6 s5 => if v3 = 35 then (zC (zf_34 x5 v6 x2 s5) fun v9 s8 => if v9 = 0 then ((zf_14_70 (fun y0 y1 y2 y3 y4 y5 y6 y => (zf_14_9 n y0 y1 y2 y3 y4 y5 y6 y)) x0 x1 x2 x3 x4 x5 x6 v3 v6 s8)) else (zn v6 200 (zg ((s8.1 195 x5 v6) + x3) (zC (zf_11 x0 x1 x6 ((s8.1 195 x5 v6) + x3) s8) fun _ s12 => (zf_14_70 (fun y0 y1 y2 y3 y4 y5 y6 y => (zf_14_9 n y0 y1 y2 y3 y4 y5 y6 y)) x0 x1 x2 x3 x4 x5 x6 v3 v6 s12))))) else ((zf_14_70 (fun y0 y1 y2 y3 y4 y5 y6 y => (zf_14_9 n y0 y1 y2 y3 y4 y5 y6 y)) x0 x1 x2 x3 x4 x5 x6 v3 v6 s5)))
/-- HexTemplates$Editor.tellNewLengths(LHexTemplates$Reader;III)V -/
def zf_14 (x0 : Nat) (x1 : Nat) (x2 : Int) (x3 : Int) (x4 : Int) (s : zS) : zR := (zf_14_9 xfu x0 x1 x2 x3 x4 x1 0 s)
def zf_12_27 : Nat → Nat → Nat → Int → Int → Int → Nat → Int → zS → zR
  | 0, _, _, _, _, _, _, _, _ => none
  | n + 1, x0, x1, x2, x3, x4, x5, x6, s => if (s.1 199 x5 0) ≤ x6 then (zC (zf_14 x0 x1 x2 x4 1 s) fun _ s2 => zC (zf_6 2 x3 x4 s2) fun v5 s4 => zz v5 s4) else (zn x6 200 (if (s.1 192 x5 x6) = 3 then (zn x6 200 (if (s.1 196 x5 x6) < x3 then (zg (x6 + 1) ((zf_12_27 n x0 x1 x2 x3 x4 x5 (x6 + 1) s))) else (zn x6 200 (zg ((s.1 196 x5 x6) + x4) (if ((s.1 196 x5 x6) + x4) ≤ 255 then (zn x6 200 (zC (zf_11 x0 x1 x6 ((s.1 196 x5 x6) + x4) s) fun _ s10 => zg (x6 + 1) ((zf_12_27 n x0 x1 x2 x3 x4 x5 (x6 + 1) s10)))) else (zz 0 s)))))) else (zg (x6 + 1) ((zf_12_27 n x0 x1 x2 x3 x4 x5 (x6 + 1) s)))))
/-- HexTemplates$Editor.putIn(LHexTemplates$Reader;III)Z -/
def zf_12 (x0 : Nat) (x1 : Nat) (x2 : Int) (x3 : Int) (x4 : Int) (s : zS) : zR := zg ((s.1 1 2 0) + x4) (if ((s.1 1 2 0) + x4) ≤ 160 then ((zf_12_27 xfu x0 x1 x2 x3 x4 x1 0 s)) else (zz 0 s))
/-- HexTemplates$Reader.isEndedByZero(I)Z -/
def zf_85 (x0 : Nat) (x1 : Int) (s : zS) : zR := zC (zf_81 x0 x1 s) fun v3 s2 => if v3 = 122 then (zz 1 s2) else (zz 0 s2)
/-- HexTemplates$Reader.stringLength(I)I -/
def zf_86 (x0 : Nat) (x1 : Int) (s : zS) : zR := zC (zf_27 x0 x1 s) fun v3 s2 => if v3 = 0 then (zi (-1) s2) else (zn x1 200 (if (s2.1 192 x0 x1) = 5 then (zC (zf_85 x0 x1 s2) fun v6 s5 => if v6 = 0 then (zn x1 200 (zi (s5.1 195 x0 x1) s5)) else (zn x1 200 (zg ((s5.1 195 x0 x1) - 1) (zi ((s5.1 195 x0 x1) - 1) s5)))) else (zi (-1) s2)))
/-- HexTemplates.checkPlace(II)V -/
def zf_137 (x0 : Nat) (x1 : Int) (x2 : Int) (s : zS) : zR := if x1 < 0 then (zt 1 s) else (if x1 ≤ x2 then (zi 0 s) else (zt 1 s))
/-- HexTemplates.checkEdit(Z)V -/
def zf_138 (x0 : Nat) (x1 : Int) (s : zS) : zR := if x1 = 0 then (zt 1 s) else (zi 0 s)
def zf_124_65 (x0 : Nat) (x1 : Int) (x2 : Int) (x3 : Int) (s : zS) : zR := zn x1 200 (zC (zf_10 0 1 s) fun _ s2 => zg ((s.1 194 0 x1) + x2) (zC (zf_12 0 0 x1 ((s.1 194 0 x1) + x2) 1 s2) fun v6 s5 => zC (zf_3 2 ((s.1 194 0 x1) + x2) x3 s5) fun _ s8 => zC (zf_138 x0 v6 s8) fun _ s10 => zC (zf_140 x0 s10) fun v13 s12 => zi v13 s12))
/-- HexTemplates.insert(III)I -/
def zf_124 (x0 : Nat) (x1 : Int) (x2 : Int) (x3 : Int) (s : zS) : zR := zC (zf_135 x0 x1 s) fun _ s2 => if x3 < 0 then (zt 0 s2) else (if x3 ≤ 255 then (zC (zf_86 0 x1 s2) fun v5 s4 => zC (zf_137 x0 x2 v5 s4) fun _ s7 => if x3 = 0 then (zC (zf_85 0 x1 s7) fun v10 s9 => if v10 = 0 then ((zf_124_65 x0 x1 x2 x3 s9)) else (zt 1 s9)) else ((zf_124_65 x0 x1 x2 x3 s7))) else (zt 0 s2))
/-- HexTemplatesLaw.insert(LHexTemplates;III[J)I -/
def zf_244 (x0 : Nat) (x1 : Int) (x2 : Int) (x3 : Int) (x4 : Nat) (s : zS) : zR := zCh (zf_124 x0 x1 x2 x3 s) (fun v3 s2 => zW 1000 x4 1 0 v3 s2 fun s5 => zi 0 s5) fun e s7 => match e with | 0 => zi 2 s7 | 1 => zi 3 s7 | 2 => zi 1 s7 | e + 3 => some (.inr (e + 3), s7)
def zf_7_23 : Nat → Nat → Int → Int → zS → zR
  | 0, _, _, _, _ => none
  | n + 1, x0, x2, x3, s => if (s.1 1 x0 0) ≤ x3 then (zg ((s.1 1 x0 0) - x2) (zP 1 x0 0 ((s.1 1 x0 0) - x2) s fun s2 => zi 0 s2)) else (zn x3 (zlB x0) (zg (x3 - x2) (zW 0 x0 (zlB x0) (x3 - x2) (s.1 0 x0 x3) s fun s6 => zg (x3 + 1) ((zf_7_23 n x0 x2 (x3 + 1) s6)))))
/-- HexTemplates$Bytes.close(II)V -/
def zf_7 (x0 : Nat) (x1 : Int) (x2 : Int) (s : zS) : zR := if x1 < 0 then (zi 0 s) else (if x2 < 0 then (zi 0 s) else (zg ((s.1 1 x0 0) - x1) (if x2 ≤ ((s.1 1 x0 0) - x1) then (zg (x1 + x2) ((zf_7_23 xfu x0 x2 (x1 + x2) s))) else (zi 0 s))))
def zf_13_9 : Nat → Nat → Nat → Int → Int → Int → Nat → Int → zS → zR
  | 0, _, _, _, _, _, _, _, _ => none
  | n + 1, x0, x1, x2, x3, x4, x5, x6, s => if (s.1 199 x5 0) ≤ x6 then (zg (-x4) (zC (zf_14 x0 x1 x2 (-x4) (-1) s) fun _ s3 => zC (zf_7 2 x3 x4 s3) fun _ s5 => zi 0 s5)) else (zn x6 200 (if (s.1 192 x5 x6) = 3 then (zn x6 200 (if (s.1 196 x5 x6) ≤ x3 then (zg (x6 + 1) ((zf_13_9 n x0 x1 x2 x3 x4 x5 (x6 + 1) s))) else (zn x6 200 (zg ((s.1 196 x5 x6) - x4) (zC (zf_227 ((s.1 196 x5 x6) - x4) x3 s) fun v11 s10 => zC (zf_11 x0 x1 x6 v11 s10) fun _ s13 => zg (x6 + 1) ((zf_13_9 n x0 x1 x2 x3 x4 x5 (x6 + 1) s13))))))) else (zg (x6 + 1) ((zf_13_9 n x0 x1 x2 x3 x4 x5 (x6 + 1) s)))))
/-- HexTemplates$Editor.takeOut(LHexTemplates$Reader;III)V -/
def zf_13 (x0 : Nat) (x1 : Nat) (x2 : Int) (x3 : Int) (x4 : Int) (s : zS) : zR := (zf_13_9 xfu x0 x1 x2 x3 x4 x1 0 s)
/-- HexTemplates.remove(II)I -/
def zf_125 (x0 : Nat) (x1 : Int) (x2 : Int) (s : zS) : zR := zC (zf_135 x0 x1 s) fun _ s2 => zC (zf_86 0 x1 s2) fun v5 s4 => zg (v5 - 1) (zC (zf_137 x0 x2 (v5 - 1) s4) fun _ s8 => zC (zf_10 0 1 s8) fun _ s10 => zn x1 200 (zg ((s10.1 194 0 x1) + x2) (zC (zf_13 0 0 x1 ((s10.1 194 0 x1) + x2) 1 s10) fun _ s13 => zC (zf_140 x0 s13) fun v16 s15 => zi v16 s15)))
/-- HexTemplatesLaw.remove(LHexTemplates;II[J)I -/
def zf_245 (x0 : Nat) (x1 : Int) (x2 : Int) (x3 : Nat) (s : zS) : zR := zCh (zf_125 x0 x1 x2 s) (fun v3 s2 => zW 1000 x3 1 0 v3 s2 fun s5 => zi 0 s5) fun e s7 => match e with | 0 => some (.inr 0, s7) | 1 => zi 2 s7 | 2 => zi 1 s7 | e + 3 => some (.inr (e + 3), s7)
def zf_8_2 : Nat → Nat → Int → Int → Int → zS → zR
  | 0, _, _, _, _, _ => none
  | n + 1, x0, x1, x2, x3, s => zg (x1 + x2) (if (x1 + x2) ≤ x3 then (zi 0 s) else (zC (zf_2 x0 x3 s) fun v4 s3 => zg (x3 + x2) (zC (zf_3 x0 (x3 + x2) v4 s3) fun _ s7 => zg (x3 + 1) ((zf_8_2 n x0 x1 x2 (x3 + 1) s7)))))
/-- HexTemplates$Bytes.repeat(II)V -/
def zf_8 (x0 : Nat) (x1 : Int) (x2 : Int) (s : zS) : zR := (zf_8_2 xfu x0 x1 x2 x1 s)
def zf_33_31 : Nat → Nat → Int → Int → Int → zS → zR
  | 0, _, _, _, _, _ => none
  | n + 1, x0, x1, x3, x4, s => if (s.1 199 x0 0) ≤ x4 then (zi (-1) s) else (zn x4 200 (if (s.1 197 x0 x4) = x1 then (if x3 = 0 then (zi x4 s) else (zg (x3 + (-1)) (zg (x4 + 1) ((zf_33_31 n x0 x1 (x3 + (-1)) (x4 + 1) s))))) else (zg (x4 + 1) ((zf_33_31 n x0 x1 x3 (x4 + 1) s)))))
/-- HexTemplates$Nodes.elementAt(II)I -/
def zf_33 (x0 : Nat) (x1 : Int) (x2 : Int) (s : zS) : zR := zC (zf_27 x0 x1 s) fun v3 s2 => if v3 = 0 then (zi (-1) s2) else (zn x1 200 (if (s2.1 192 x0 x1) = 1 then (if 0 ≤ x2 then (zg (x1 + 1) ((zf_33_31 xfu x0 x1 x2 (x1 + 1) s2))) else (zi (-1) s2)) else (zi (-1) s2)))
def zf_126_139 (x0 : Nat) (s : zS) : zR := zC (zf_140 x0 s) fun v3 s2 => zi v3 s2
def zf_126_31 (x0 : Nat) (x1 : Int) (x3 : Int) (x4 : Int) (s0 : Nat) (s1 : Int) (s : zS) : zR := zC (zf_138 s0 s1 s) fun _ s2 => zn x4 200 (zn x4 200 (zC (zf_10 0 1 s2) fun _ s4 => if x3 = 0 then (zC (zf_13 0 0 x1 (s2.1 194 0 x4) (s2.1 195 0 x4) s4) fun _ s6 => (zf_126_139 x0 s6)) else (zg ((s2.1 194 0 x4) + (s2.1 195 0 x4)) (zC (zf_12 0 0 x1 ((s2.1 194 0 x4) + (s2.1 195 0 x4)) (s2.1 195 0 x4) s4) fun v10 s9 => zC (zf_138 x0 v10 s9) fun _ s12 => zC (zf_8 2 (s2.1 194 0 x4) (s2.1 195 0 x4) s12) fun _ s14 => (zf_126_139 x0 s14)))))
/-- HexTemplates.element(IIZ)I -/
def zf_126 (x0 : Nat) (x1 : Int) (x2 : Int) (x3 : Int) (s : zS) : zR := zC (zf_135 x0 x1 s) fun _ s2 => zC (zf_33 0 x1 x2 s2) fun v5 s4 => if v5 = (-1) then ((zf_126_31 x0 x1 x3 v5 x0 0 s4)) else ((zf_126_31 x0 x1 x3 v5 x0 1 s4))
/-- HexTemplatesLaw.element(LHexTemplates;IIZ[J)I -/
def zf_246 (x0 : Nat) (x1 : Int) (x2 : Int) (x3 : Int) (x4 : Nat) (s : zS) : zR := zCh (zf_126 x0 x1 x2 x3 s) (fun v3 s2 => zW 1000 x4 1 0 v3 s2 fun s5 => zi 0 s5) fun e s7 => match e with | 0 => some (.inr 0, s7) | 1 => zi 2 s7 | 2 => zi 1 s7 | e + 3 => some (.inr (e + 3), s7)
/-- HexTemplates.repair()I -/
def zf_127 (x0 : Nat) (s : zS) : zR := zC (zf_133 x0 s) fun _ s2 => zC (zf_10 0 1 s2) fun _ s4 => zC (zf_140 x0 s4) fun v7 s6 => zi v7 s6
/-- HexTemplatesLaw.repair(LHexTemplates;[J)I -/
def zf_247 (x0 : Nat) (x1 : Nat) (s : zS) : zR := zCh (zf_127 x0 s) (fun v3 s2 => zW 1000 x1 1 0 v3 s2 fun s5 => zi 0 s5) fun e s7 => match e with | 0 => some (.inr 0, s7) | 1 => zi 1 s7 | 2 => some (.inr 2, s7) | e + 3 => some (.inr (e + 3), s7)
def zf_22_119 (x0 : Nat) (x4 : Int) (x5 : Int) (x7 : Int) (s : zS) : zR := zg (x4 - (s.1 128 x0 0)) (zg ((x4 - (s.1 128 x0 0)) - x7) (zP 129 x0 0 ((x4 - (s.1 128 x0 0)) - x7) s fun s2 => zg (x5 - (s2.1 128 x0 0)) (zg ((x5 - (s2.1 128 x0 0)) - x7) (zP 130 x0 0 ((x5 - (s2.1 128 x0 0)) - x7) s2 fun s6 => zi 0 s6))))
def zf_22_74 : Nat → Nat → Nat → Int → Int → Int → Int → Int → Int → zS → zR
  | 0, _, _, _, _, _, _, _, _, _ => none
  | n + 1, x0, x1, x2, x3, x4, x5, x6, x7, s => zg (x6 - (s.1 128 x0 0)) (if (x6 - (s.1 128 x0 0)) ≤ x7 then ((zf_22_119 x0 x4 x5 x7 s)) else (zg (x4 - 1) (zg ((x4 - 1) - x7) (zC (zf_92 x1 x2 ((x4 - 1) - x7) s) fun v6 s5 => zg (x5 - 1) (zg ((x5 - 1) - x7) (zC (zf_92 x1 x3 ((x5 - 1) - x7) s5) fun v11 s10 => if v6 = v11 then (zg (x7 + 1) ((zf_22_74 n x0 x1 x2 x3 x4 x5 x6 (x7 + 1) s10))) else ((zf_22_119 x0 x4 x5 x7 s10))))))))
def zf_22_28 : Nat → Nat → Nat → Int → Int → Int → Int → Int → zS → zR
  | 0, _, _, _, _, _, _, _, _ => none
  | n + 1, x0, x1, x2, x3, x4, x5, x6, s => if x6 ≤ (s.1 128 x0 0) then ((zf_22_74 xfu x0 x1 x2 x3 x4 x5 x6 0 s)) else (zC (zf_92 x1 x2 (s.1 128 x0 0) s) fun v3 s2 => zC (zf_92 x1 x3 (s2.1 128 x0 0) s2) fun v6 s5 => if v3 = v6 then (zg ((s5.1 128 x0 0) + 1) (zP 128 x0 0 ((s5.1 128 x0 0) + 1) s5 fun s8 => (zf_22_28 n x0 x1 x2 x3 x4 x5 x6 s8))) else ((zf_22_74 xfu x0 x1 x2 x3 x4 x5 x6 0 s5)))
/-- HexTemplates$Hunk.compare(LHexTemplates$States;II)V -/
def zf_22 (x0 : Nat) (x1 : Nat) (x2 : Int) (x3 : Int) (s : zS) : zR := zC (zf_91 x1 x2 s) fun v3 s2 => zC (zf_91 x1 x3 s2) fun v6 s5 => zC (zf_229 v3 v6 s5) fun v9 s8 => zP 128 x0 0 0 s8 fun s11 => (zf_22_28 xfu x0 x1 x2 x3 v3 v6 v9 s11)
/-- HexTemplates.hunk(III)I -/
def zf_128 (x0 : Nat) (x1 : Int) (x2 : Int) (x3 : Int) (s : zS) : zR := zC (zf_134 x0 x1 s) fun _ s2 => zC (zf_134 x0 x2 s2) fun _ s4 => if x3 < 0 then (zt 0 s4) else (if x3 ≤ 2 then (zC (zf_22 0 0 x1 x2 s4) fun _ s6 => if x3 = 0 then (zi (s6.1 128 0 0) s6) else (if x3 = 1 then (zi (s6.1 129 0 0) s6) else (zi (s6.1 130 0 0) s6))) else (zt 0 s4))
/-- HexTemplatesLaw.hunk(LHexTemplates;III[J)I -/
def zf_248 (x0 : Nat) (x1 : Int) (x2 : Int) (x3 : Int) (x4 : Nat) (s : zS) : zR := zCh (zf_128 x0 x1 x2 x3 s) (fun v3 s2 => zW 1000 x4 1 0 v3 s2 fun s5 => zi 0 s5) fun e s7 => match e with | 0 => zi 2 s7 | 1 => some (.inr 1, s7) | 2 => zi 1 s7 | e + 3 => some (.inr (e + 3), s7)
def zf_24_62 : Nat → Nat → Nat → Int → Nat → Int → Int → Int → zS → zR
  | 0, _, _, _, _, _, _, _, _ => none
  | n + 1, x0, x1, x2, x3, x4, x6, x7, s => if x6 ≤ x7 then (zz 1 s) else (zg ((s.1 128 x0 0) + x7) (zC (zf_92 x1 x2 ((s.1 128 x0 0) + x7) s) fun v4 s3 => zg (x4 + x7) (zC (zf_2 x3 (x4 + x7) s3) fun v8 s7 => if v4 = v8 then (zg (x7 + 1) ((zf_24_62 n x0 x1 x2 x3 x4 x6 (x7 + 1) s7))) else (zz 0 s7))))
/-- HexTemplates$Hunk.isAt(LHexTemplates$States;ILHexTemplates$Bytes;I)Z -/
def zf_24 (x0 : Nat) (x1 : Nat) (x2 : Int) (x3 : Nat) (x4 : Int) (s : zS) : zR := zC (zf_229 2 (s.1 128 x0 0) s) fun v3 s2 => zC (zf_91 x1 x2 s2) fun v6 s5 => zg (v6 - (s5.1 128 x0 0)) (zg ((v6 - (s5.1 128 x0 0)) - (s5.1 129 x0 0)) (zC (zf_229 2 ((v6 - (s5.1 128 x0 0)) - (s5.1 129 x0 0)) s5) fun v11 s10 => if x4 < v3 then (zz 0 s10) else (zg ((s2.1 129 x0 0) + v11) (zg (x4 + ((s2.1 129 x0 0) + v11)) (if (x4 + ((s2.1 129 x0 0) + v11)) ≤ (s10.1 1 x3 0) then (zg (-v3) ((zf_24_62 xfu x0 x1 x2 x3 x4 ((s2.1 129 x0 0) + v11) (-v3) s10))) else (zz 0 s10))))))
def zf_23_3 : Nat → Nat → Nat → Int → Nat → Int → zS → zR
  | 0, _, _, _, _, _, _ => none
  | n + 1, x0, x1, x2, x3, x4, s => if 160 < x4 then (zi (-1) s) else (zg ((s.1 128 x0 0) - x4) (zC (zf_24 x0 x1 x2 x3 ((s.1 128 x0 0) - x4) s) fun v4 s3 => if v4 = 0 then (zg ((s3.1 128 x0 0) + x4) (zC (zf_24 x0 x1 x2 x3 ((s3.1 128 x0 0) + x4) s3) fun v8 s7 => if v8 = 0 then (zg (x4 + 1) ((zf_23_3 n x0 x1 x2 x3 (x4 + 1) s7))) else (zg ((s7.1 128 x0 0) + x4) (zi ((s7.1 128 x0 0) + x4) s7)))) else (zg ((s3.1 128 x0 0) - x4) (zi ((s3.1 128 x0 0) - x4) s3))))
/-- HexTemplates$Hunk.placeIn(LHexTemplates$States;ILHexTemplates$Bytes;)I -/
def zf_23 (x0 : Nat) (x1 : Nat) (x2 : Int) (x3 : Nat) (s : zS) : zR := (zf_23_3 xfu x0 x1 x2 x3 0 s)
def zf_25_26 : Nat → Nat → Nat → Int → Nat → Int → Int → zS → zR
  | 0, _, _, _, _, _, _, _ => none
  | n + 1, x0, x1, x2, x3, x4, x5, s => if (s.1 130 x0 0) ≤ x5 then (zi 0 s) else (zg ((s.1 128 x0 0) + x5) (zC (zf_92 x1 x2 ((s.1 128 x0 0) + x5) s) fun v4 s3 => zg (x4 + x5) (zC (zf_3 x3 (x4 + x5) v4 s3) fun _ s7 => zg (x5 + 1) ((zf_25_26 n x0 x1 x2 x3 x4 (x5 + 1) s7)))))
/-- HexTemplates$Hunk.apply(LHexTemplates$States;ILHexTemplates$Bytes;I)V -/
def zf_25 (x0 : Nat) (x1 : Nat) (x2 : Int) (x3 : Nat) (x4 : Int) (s : zS) : zR := zC (zf_7 x3 x4 (s.1 129 x0 0) s) fun _ s2 => zC (zf_6 x3 x4 (s2.1 130 x0 0) s2) fun v5 s4 => if v5 = 0 then (zi 0 s4) else ((zf_25_26 xfu x0 x1 x2 x3 x4 0 s4))
/-- HexTemplates.patch(II)I -/
def zf_129 (x0 : Nat) (x1 : Int) (x2 : Int) (s : zS) : zR := zC (zf_134 x0 x1 s) fun _ s2 => zC (zf_134 x0 x2 s2) fun _ s4 => zC (zf_22 0 0 x1 x2 s4) fun _ s6 => zC (zf_23 0 0 x1 1 s6) fun v9 s8 => if v9 = (-1) then (zt 1 s8) else (zC (zf_88 0 s8) fun v12 s11 => if v12 = 0 then (zg ((s11.1 1 1 0) - (s11.1 129 0 0)) (zg (((s11.1 1 1 0) - (s11.1 129 0 0)) + (s11.1 130 0 0)) (if (((s11.1 1 1 0) - (s11.1 129 0 0)) + (s11.1 130 0 0)) ≤ 160 then (zC (zf_25 0 0 x2 1 v9 s11) fun _ s16 => zC (zf_131 x0 s16) fun v19 s18 => zi v19 s18) else (zt 1 s11)))) else (zt 1 s11))
/-- HexTemplatesLaw.patch(LHexTemplates;II[J)I -/
def zf_249 (x0 : Nat) (x1 : Int) (x2 : Int) (x3 : Nat) (s : zS) : zR := zCh (zf_129 x0 x1 x2 s) (fun v3 s2 => zW 1000 x3 1 0 v3 s2 fun s5 => zi 0 s5) fun e s7 => match e with | 0 => some (.inr 0, s7) | 1 => zi 2 s7 | 2 => zi 1 s7 | e + 3 => some (.inr (e + 3), s7)
def zf_0_152 (L : Nat) (xs : Nat → Int32) (zk23 : Nat → Nat → Nat → Int → zS → zR) (x1 : Nat) (x2 : Nat) (x3 : Nat) (x4 : Int) (s : zS) : zR := zg (x4 + 1) (zn (x4 + 1) L (zg (x4 + 2) (zn (x4 + 2) L (zg (x4 + 3) (zn (x4 + 3) L (zC (zf_231 x1 (((Int32.ofInt (xs ((x4 + 1)).toNat).toInt).toInt64 <<< ((Int32.ofInt 32).toInt64 &&& 63)) ||| ((Int32.ofInt (xs ((x4 + 2)).toNat).toInt).toInt64 &&& (Int64.ofInt 4294967295))) (xs ((x4 + 3)).toNat).toInt x3 s) fun v6 s5 => zn (x4 + 1) L (zn (x4 + 2) L (zn (x4 + 3) L (zC (zf_147 x2 (((Int32.ofInt (xs ((x4 + 1)).toNat).toInt).toInt64 <<< ((Int32.ofInt 32).toInt64 &&& 63)) ||| ((Int32.ofInt (xs ((x4 + 2)).toNat).toInt).toInt64 &&& (Int64.ofInt 4294967295))) (xs ((x4 + 3)).toNat).toInt s5) fun v9 s8 => zC (zf_144 x2 s8) fun v12 s11 => if v12 = v6 then (if v6 = 0 then (zn 0 1 (if (lg_cmp (Int64.ofInt (s11.1 1000 x3 0)) (Int32.ofInt v9).toInt64).toInt = 0 then (zg (x4 + 4) ((zk23 x1 x2 x3 (x4 + 4) s11))) else (zz 0 s11))) else (zg (x4 + 4) ((zk23 x1 x2 x3 (x4 + 4) s11)))) else (zz 0 s11))))))))))
def zf_0_252 (L : Nat) (xs : Nat → Int32) (zk23 : Nat → Nat → Nat → Int → zS → zR) (x1 : Nat) (x2 : Nat) (x3 : Nat) (x4 : Int) (s : zS) : zR := zC (zf_232 x1 x3 s) fun v3 s2 => zC (zf_149 x2 s2) fun v6 s5 => zC (zf_144 x2 s5) fun v9 s8 => if v9 = v3 then (if v3 = 0 then (zn 0 1 (if (lg_cmp (Int64.ofInt (s8.1 1000 x3 0)) (Int32.ofInt v6).toInt64).toInt = 0 then (zg (x4 + 4) ((zk23 x1 x2 x3 (x4 + 4) s8))) else (zz 0 s8))) else (zg (x4 + 4) ((zk23 x1 x2 x3 (x4 + 4) s8)))) else (zz 0 s8)
def zf_0_296 (L : Nat) (xs : Nat → Int32) (zk23 : Nat → Nat → Nat → Int → zS → zR) (x1 : Nat) (x2 : Nat) (x3 : Nat) (x4 : Int) (s : zS) : zR := zg (x4 + 1) (zn (x4 + 1) L (zC (zf_233 x1 (xs ((x4 + 1)).toNat).toInt x3 s) fun v4 s3 => zn (x4 + 1) L (zC (zf_171 x2 (xs ((x4 + 1)).toNat).toInt s3) fun v7 s6 => zC (zf_144 x2 s6) fun v10 s9 => if v10 = v4 then (if v4 = 0 then (zn 0 1 (if (lg_cmp (Int64.ofInt (s9.1 1000 x3 0)) (Int32.ofInt v7).toInt64).toInt = 0 then (zg (x4 + 4) ((zk23 x1 x2 x3 (x4 + 4) s9))) else (zz 0 s9))) else (zg (x4 + 4) ((zk23 x1 x2 x3 (x4 + 4) s9)))) else (zz 0 s9))))
def zf_0_352 (L : Nat) (xs : Nat → Int32) (zk23 : Nat → Nat → Nat → Int → zS → zR) (x1 : Nat) (x2 : Nat) (x3 : Nat) (x4 : Int) (s : zS) : zR := zC (zf_108 x1 s) fun v3 s2 => zC (zf_150 x2 s2) fun v6 s5 => if v3 = v6 then (zg (x4 + 4) ((zk23 x1 x2 x3 (x4 + 4) s5))) else (zz 0 s5)
def zf_0_365 (L : Nat) (xs : Nat → Int32) (zk23 : Nat → Nat → Nat → Int → zS → zR) (x1 : Nat) (x2 : Nat) (x3 : Nat) (x4 : Int) (s : zS) : zR := zg (x4 + 1) (zn (x4 + 1) L (zC (zf_234 x1 (xs ((x4 + 1)).toNat).toInt x3 s) fun v4 s3 => zn (x4 + 1) L (zC (zf_151 x2 (xs ((x4 + 1)).toNat).toInt s3) fun v7 s6 => zC (zf_144 x2 s6) fun v10 s9 => if v10 = v4 then (if v4 = 0 then (zn 0 1 (if (lg_cmp (Int64.ofInt (s9.1 1000 x3 0)) (Int32.ofInt v7).toInt64).toInt = 0 then (zg (x4 + 4) ((zk23 x1 x2 x3 (x4 + 4) s9))) else (zz 0 s9))) else (zg (x4 + 4) ((zk23 x1 x2 x3 (x4 + 4) s9)))) else (zz 0 s9))))
def zf_0_421 (L : Nat) (xs : Nat → Int32) (zk23 : Nat → Nat → Nat → Int → zS → zR) (x1 : Nat) (x2 : Nat) (x3 : Nat) (x4 : Int) (s : zS) : zR := zC (zf_110 x1 s) fun v3 s2 => zC (zf_152 x2 s2) fun v6 s5 => if v3 = v6 then (zg (x4 + 4) ((zk23 x1 x2 x3 (x4 + 4) s5))) else (zz 0 s5)
def zf_0_434 (L : Nat) (xs : Nat → Int32) (zk23 : Nat → Nat → Nat → Int → zS → zR) (x1 : Nat) (x2 : Nat) (x3 : Nat) (x4 : Int) (s : zS) : zR := zg (x4 + 1) (zn (x4 + 1) L (zC (zf_235 x1 (xs ((x4 + 1)).toNat).toInt x3 s) fun v4 s3 => zn (x4 + 1) L (zC (zf_154 x2 (xs ((x4 + 1)).toNat).toInt s3) fun v7 s6 => zC (zf_144 x2 s6) fun v10 s9 => if v10 = v4 then (if v4 = 0 then (zn 0 1 (if (lg_cmp (Int64.ofInt (s9.1 1000 x3 0)) (Int32.ofInt v7).toInt64).toInt = 0 then (zg (x4 + 4) ((zk23 x1 x2 x3 (x4 + 4) s9))) else (zz 0 s9))) else (zg (x4 + 4) ((zk23 x1 x2 x3 (x4 + 4) s9)))) else (zz 0 s9))))
def zf_0_490 (L : Nat) (xs : Nat → Int32) (zk23 : Nat → Nat → Nat → Int → zS → zR) (x1 : Nat) (x2 : Nat) (x3 : Nat) (x4 : Int) (s : zS) : zR := zg (x4 + 1) (zn (x4 + 1) L (zC (zf_236 x1 (xs ((x4 + 1)).toNat).toInt x3 s) fun v4 s3 => zn (x4 + 1) L (zC (zf_155 x2 (xs ((x4 + 1)).toNat).toInt s3) fun v7 s6 => zC (zf_144 x2 s6) fun v10 s9 => if v10 = v4 then (if v4 = 0 then (zn 0 1 (if (lg_cmp (Int64.ofInt (s9.1 1000 x3 0)) (Int32.ofInt v7).toInt64).toInt = 0 then (zg (x4 + 4) ((zk23 x1 x2 x3 (x4 + 4) s9))) else (zz 0 s9))) else (zg (x4 + 4) ((zk23 x1 x2 x3 (x4 + 4) s9)))) else (zz 0 s9))))
def zf_0_546 (L : Nat) (xs : Nat → Int32) (zk23 : Nat → Nat → Nat → Int → zS → zR) (x1 : Nat) (x2 : Nat) (x3 : Nat) (x4 : Int) (s : zS) : zR := zC (zf_113 x1 s) fun v3 s2 => zC (zf_188 x2 s2) fun v6 s5 => if v3 = v6 then (zg (x4 + 4) ((zk23 x1 x2 x3 (x4 + 4) s5))) else (zz 0 s5)
def zf_0_607 (L : Nat) (xs : Nat → Int32) (zk23 : Nat → Nat → Nat → Int → zS → zR) (x1 : Nat) (x2 : Nat) (x3 : Nat) (x4 : Int) (x5 : Int) (s0 : Nat) (s1 : Int) (s2 : Int) (s : zS) : zR := zC (zf_189 s0 s1 s2 s) fun v3 s2 => zC (zf_144 x2 s2) fun v6 s5 => if v6 = x5 then (if x5 = 0 then (zn 0 1 (if (lg_cmp (Int64.ofInt (s5.1 1000 x3 0)) (Int32.ofInt v3).toInt64).toInt = 0 then (zg (x4 + 4) ((zk23 x1 x2 x3 (x4 + 4) s5))) else (zz 0 s5))) else (zg (x4 + 4) ((zk23 x1 x2 x3 (x4 + 4) s5)))) else (zz 0 s5)
def zf_0_580 (L : Nat) (xs : Nat → Int32) (zk23 : Nat → Nat → Nat → Int → zS → zR) (x1 : Nat) (x2 : Nat) (x3 : Nat) (x4 : Int) (s0 : Nat) (s1 : Int) (s2 : Int) (s : zS) : zR := zC (zf_237 s0 s1 s2 x3 s) fun v3 s2 => zg (x4 + 1) (zn (x4 + 1) L (zg (x4 + 2) (zn (x4 + 2) L (if (xs ((x4 + 2)).toNat).toInt = 0 then ((zf_0_607 L xs zk23 x1 x2 x3 x4 v3 x2 (xs ((x4 + 1)).toNat).toInt 0 s2)) else ((zf_0_607 L xs zk23 x1 x2 x3 x4 v3 x2 (xs ((x4 + 1)).toNat).toInt 1 s2))))))
def zf_0_559 (L : Nat) (xs : Nat → Int32) (zk23 : Nat → Nat → Nat → Int → zS → zR) (x1 : Nat) (x2 : Nat) (x3 : Nat) (x4 : Int) (s : zS) : zR := zg (x4 + 1) (zn (x4 + 1) L (zg (x4 + 2) (zn (x4 + 2) L (if (xs ((x4 + 2)).toNat).toInt = 0 then ((zf_0_580 L xs zk23 x1 x2 x3 x4 x1 (xs ((x4 + 1)).toNat).toInt 0 s)) else ((zf_0_580 L xs zk23 x1 x2 x3 x4 x1 (xs ((x4 + 1)).toNat).toInt 1 s))))))
def zf_0_643 (L : Nat) (xs : Nat → Int32) (zk23 : Nat → Nat → Nat → Int → zS → zR) (x1 : Nat) (x2 : Nat) (x3 : Nat) (x4 : Int) (s : zS) : zR := zC (zf_115 x1 s) fun v3 s2 => zC (zf_190 x2 s2) fun v6 s5 => if v3 = v6 then (zg (x4 + 4) ((zk23 x1 x2 x3 (x4 + 4) s5))) else (zz 0 s5)
def zf_0_656 (L : Nat) (xs : Nat → Int32) (zk23 : Nat → Nat → Nat → Int → zS → zR) (x1 : Nat) (x2 : Nat) (x3 : Nat) (x4 : Int) (s : zS) : zR := zg (x4 + 1) (zn (x4 + 1) L (zg (x4 + 2) (zn (x4 + 2) L (zC (zf_238 x1 (xs ((x4 + 1)).toNat).toInt (xs ((x4 + 2)).toNat).toInt x3 s) fun v5 s4 => zn (x4 + 1) L (zn (x4 + 2) L (zC (zf_196 x2 (xs ((x4 + 1)).toNat).toInt (xs ((x4 + 2)).toNat).toInt s4) fun v8 s7 => zC (zf_144 x2 s7) fun v11 s10 => if v11 = v5 then (if v5 = 0 then (zn 0 1 (if (lg_cmp (Int64.ofInt (s10.1 1000 x3 0)) (Int32.ofInt v8).toInt64).toInt = 0 then (zg (x4 + 4) ((zk23 x1 x2 x3 (x4 + 4) s10))) else (zz 0 s10))) else (zg (x4 + 4) ((zk23 x1 x2 x3 (x4 + 4) s10)))) else (zz 0 s10)))))))
def zf_0_724 (L : Nat) (xs : Nat → Int32) (zk23 : Nat → Nat → Nat → Int → zS → zR) (x1 : Nat) (x2 : Nat) (x3 : Nat) (x4 : Int) (s : zS) : zR := zC (zf_117 x1 s) fun v3 s2 => zC (zf_197 x2 s2) fun v6 s5 => if v3 = v6 then (zg (x4 + 4) ((zk23 x1 x2 x3 (x4 + 4) s5))) else (zz 0 s5)
def zf_0_737 (L : Nat) (xs : Nat → Int32) (zk23 : Nat → Nat → Nat → Int → zS → zR) (x1 : Nat) (x2 : Nat) (x3 : Nat) (x4 : Int) (s : zS) : zR := zC (zf_118 x1 s) fun v3 s2 => zC (zf_198 x2 s2) fun v6 s5 => if v3 = v6 then (zg (x4 + 4) ((zk23 x1 x2 x3 (x4 + 4) s5))) else (zz 0 s5)
def zf_0_750 (L : Nat) (xs : Nat → Int32) (zk23 : Nat → Nat → Nat → Int → zS → zR) (x1 : Nat) (x2 : Nat) (x3 : Nat) (x4 : Int) (s : zS) : zR := zg (x4 + 1) (zn (x4 + 1) L (zC (zf_239 x1 (xs ((x4 + 1)).toNat).toInt x3 s) fun v4 s3 => zn (x4 + 1) L (zC (zf_199 x2 (xs ((x4 + 1)).toNat).toInt s3) fun v7 s6 => zC (zf_144 x2 s6) fun v10 s9 => if v10 = v4 then (if v4 = 0 then (zn 0 1 (if (lg_cmp (Int64.ofInt (s9.1 1000 x3 0)) (Int32.ofInt v7).toInt64).toInt = 0 then (zg (x4 + 4) ((zk23 x1 x2 x3 (x4 + 4) s9))) else (zz 0 s9))) else (zg (x4 + 4) ((zk23 x1 x2 x3 (x4 + 4) s9)))) else (zz 0 s9))))
def zf_0_806 (L : Nat) (xs : Nat → Int32) (zk23 : Nat → Nat → Nat → Int → zS → zR) (x1 : Nat) (x2 : Nat) (x3 : Nat) (x4 : Int) (s : zS) : zR := zg (x4 + 1) (zn (x4 + 1) L (zC (zf_240 x1 (xs ((x4 + 1)).toNat).toInt x3 s) fun v4 s3 => zn (x4 + 1) L (zC (zf_200 x2 (xs ((x4 + 1)).toNat).toInt s3) fun v7 s6 => zC (zf_144 x2 s6) fun v10 s9 => if v10 = v4 then (if v4 = 0 then (zn 0 1 (if (lg_cmp (Int64.ofInt (s9.1 1000 x3 0)) (Int32.ofInt v7).toInt64).toInt = 0 then (zg (x4 + 4) ((zk23 x1 x2 x3 (x4 + 4) s9))) else (zz 0 s9))) else (zg (x4 + 4) ((zk23 x1 x2 x3 (x4 + 4) s9)))) else (zz 0 s9))))
def zf_0_862 (L : Nat) (xs : Nat → Int32) (zk23 : Nat → Nat → Nat → Int → zS → zR) (x1 : Nat) (x2 : Nat) (x3 : Nat) (x4 : Int) (s : zS) : zR := zg (x4 + 1) (zn (x4 + 1) L (zg (x4 + 2) (zn (x4 + 2) L (zg (x4 + 3) (zn (x4 + 3) L (zC (zf_241 x1 (xs ((x4 + 1)).toNat).toInt (xs ((x4 + 2)).toNat).toInt (xs ((x4 + 3)).toNat).toInt x3 s) fun v6 s5 => zn (x4 + 1) L (zn (x4 + 2) L (zn (x4 + 3) L (zC (zf_201 x2 (xs ((x4 + 1)).toNat).toInt (xs ((x4 + 2)).toNat).toInt (xs ((x4 + 3)).toNat).toInt s5) fun v9 s8 => zC (zf_144 x2 s8) fun v12 s11 => if v12 = v6 then (if v6 = 0 then (zn 0 1 (if (lg_cmp (Int64.ofInt (s11.1 1000 x3 0)) (Int32.ofInt v9).toInt64).toInt = 0 then (zg (x4 + 4) ((zk23 x1 x2 x3 (x4 + 4) s11))) else (zz 0 s11))) else (zg (x4 + 4) ((zk23 x1 x2 x3 (x4 + 4) s11)))) else (zz 0 s11))))))))))
def zf_0_942 (L : Nat) (xs : Nat → Int32) (zk23 : Nat → Nat → Nat → Int → zS → zR) (x1 : Nat) (x2 : Nat) (x3 : Nat) (x4 : Int) (s : zS) : zR := zg (x4 + 1) (zn (x4 + 1) L (zg (x4 + 2) (zn (x4 + 2) L (zg (x4 + 3) (zn (x4 + 3) L (zC (zf_242 x1 (xs ((x4 + 1)).toNat).toInt (xs ((x4 + 2)).toNat).toInt (xs ((x4 + 3)).toNat).toInt x3 s) fun v6 s5 => zn (x4 + 1) L (zn (x4 + 2) L (zn (x4 + 3) L (zC (zf_202 x2 (xs ((x4 + 1)).toNat).toInt (xs ((x4 + 2)).toNat).toInt (xs ((x4 + 3)).toNat).toInt s5) fun v9 s8 => zC (zf_144 x2 s8) fun v12 s11 => if v12 = v6 then (if v6 = 0 then (zn 0 1 (if (lg_cmp (Int64.ofInt (s11.1 1000 x3 0)) (Int32.ofInt v9).toInt64).toInt = 0 then (zg (x4 + 4) ((zk23 x1 x2 x3 (x4 + 4) s11))) else (zz 0 s11))) else (zg (x4 + 4) ((zk23 x1 x2 x3 (x4 + 4) s11)))) else (zz 0 s11))))))))))
def zf_0_1022 (L : Nat) (xs : Nat → Int32) (zk23 : Nat → Nat → Nat → Int → zS → zR) (x1 : Nat) (x2 : Nat) (x3 : Nat) (x4 : Int) (s : zS) : zR := zg (x4 + 1) (zn (x4 + 1) L (zg (x4 + 2) (zn (x4 + 2) L (zC (zf_243 x1 (xs ((x4 + 1)).toNat).toInt (xs ((x4 + 2)).toNat).toInt x3 s) fun v5 s4 => zn (x4 + 1) L (zn (x4 + 2) L (zC (zf_214 x2 (xs ((x4 + 1)).toNat).toInt (xs ((x4 + 2)).toNat).toInt s4) fun v8 s7 => zC (zf_144 x2 s7) fun v11 s10 => if v11 = v5 then (if v5 = 0 then (zn 0 1 (if (lg_cmp (Int64.ofInt (s10.1 1000 x3 0)) (Int32.ofInt v8).toInt64).toInt = 0 then (zg (x4 + 4) ((zk23 x1 x2 x3 (x4 + 4) s10))) else (zz 0 s10))) else (zg (x4 + 4) ((zk23 x1 x2 x3 (x4 + 4) s10)))) else (zz 0 s10)))))))
def zf_0_1090 (L : Nat) (xs : Nat → Int32) (zk23 : Nat → Nat → Nat → Int → zS → zR) (x1 : Nat) (x2 : Nat) (x3 : Nat) (x4 : Int) (s : zS) : zR := zg (x4 + 1) (zn (x4 + 1) L (zg (x4 + 2) (zn (x4 + 2) L (zg (x4 + 3) (zn (x4 + 3) L (zC (zf_244 x1 (xs ((x4 + 1)).toNat).toInt (xs ((x4 + 2)).toNat).toInt (xs ((x4 + 3)).toNat).toInt x3 s) fun v6 s5 => zn (x4 + 1) L (zn (x4 + 2) L (zn (x4 + 3) L (zC (zf_216 x2 (xs ((x4 + 1)).toNat).toInt (xs ((x4 + 2)).toNat).toInt (xs ((x4 + 3)).toNat).toInt s5) fun v9 s8 => zC (zf_144 x2 s8) fun v12 s11 => if v12 = v6 then (if v6 = 0 then (zn 0 1 (if (lg_cmp (Int64.ofInt (s11.1 1000 x3 0)) (Int32.ofInt v9).toInt64).toInt = 0 then (zg (x4 + 4) ((zk23 x1 x2 x3 (x4 + 4) s11))) else (zz 0 s11))) else (zg (x4 + 4) ((zk23 x1 x2 x3 (x4 + 4) s11)))) else (zz 0 s11))))))))))
def zf_0_1170 (L : Nat) (xs : Nat → Int32) (zk23 : Nat → Nat → Nat → Int → zS → zR) (x1 : Nat) (x2 : Nat) (x3 : Nat) (x4 : Int) (s : zS) : zR := zg (x4 + 1) (zn (x4 + 1) L (zg (x4 + 2) (zn (x4 + 2) L (zC (zf_245 x1 (xs ((x4 + 1)).toNat).toInt (xs ((x4 + 2)).toNat).toInt x3 s) fun v5 s4 => zn (x4 + 1) L (zn (x4 + 2) L (zC (zf_217 x2 (xs ((x4 + 1)).toNat).toInt (xs ((x4 + 2)).toNat).toInt s4) fun v8 s7 => zC (zf_144 x2 s7) fun v11 s10 => if v11 = v5 then (if v5 = 0 then (zn 0 1 (if (lg_cmp (Int64.ofInt (s10.1 1000 x3 0)) (Int32.ofInt v8).toInt64).toInt = 0 then (zg (x4 + 4) ((zk23 x1 x2 x3 (x4 + 4) s10))) else (zz 0 s10))) else (zg (x4 + 4) ((zk23 x1 x2 x3 (x4 + 4) s10)))) else (zz 0 s10)))))))
def zf_0_1298 (L : Nat) (xs : Nat → Int32) (zk23 : Nat → Nat → Nat → Int → zS → zR) (x1 : Nat) (x2 : Nat) (x3 : Nat) (x4 : Int) (x5 : Int) (s0 : Nat) (s1 : Int) (s2 : Int) (s3 : Int) (s : zS) : zR := zC (zf_219 s0 s1 s2 s3 s) fun v3 s2 => zC (zf_144 x2 s2) fun v6 s5 => if v6 = x5 then (if x5 = 0 then (zn 0 1 (if (lg_cmp (Int64.ofInt (s5.1 1000 x3 0)) (Int32.ofInt v3).toInt64).toInt = 0 then (zg (x4 + 4) ((zk23 x1 x2 x3 (x4 + 4) s5))) else (zz 0 s5))) else (zg (x4 + 4) ((zk23 x1 x2 x3 (x4 + 4) s5)))) else (zz 0 s5)
def zf_0_1265 (L : Nat) (xs : Nat → Int32) (zk23 : Nat → Nat → Nat → Int → zS → zR) (x1 : Nat) (x2 : Nat) (x3 : Nat) (x4 : Int) (s0 : Nat) (s1 : Int) (s2 : Int) (s3 : Int) (s : zS) : zR := zC (zf_246 s0 s1 s2 s3 x3 s) fun v3 s2 => zg (x4 + 1) (zn (x4 + 1) L (zg (x4 + 2) (zn (x4 + 2) L (zg (x4 + 3) (zn (x4 + 3) L (if (xs ((x4 + 3)).toNat).toInt = 0 then ((zf_0_1298 L xs zk23 x1 x2 x3 x4 v3 x2 (xs ((x4 + 1)).toNat).toInt (xs ((x4 + 2)).toNat).toInt 0 s2)) else ((zf_0_1298 L xs zk23 x1 x2 x3 x4 v3 x2 (xs ((x4 + 1)).toNat).toInt (xs ((x4 + 2)).toNat).toInt 1 s2))))))))
def zf_0_1238 (L : Nat) (xs : Nat → Int32) (zk23 : Nat → Nat → Nat → Int → zS → zR) (x1 : Nat) (x2 : Nat) (x3 : Nat) (x4 : Int) (s : zS) : zR := zg (x4 + 1) (zn (x4 + 1) L (zg (x4 + 2) (zn (x4 + 2) L (zg (x4 + 3) (zn (x4 + 3) L (if (xs ((x4 + 3)).toNat).toInt = 0 then ((zf_0_1265 L xs zk23 x1 x2 x3 x4 x1 (xs ((x4 + 1)).toNat).toInt (xs ((x4 + 2)).toNat).toInt 0 s)) else ((zf_0_1265 L xs zk23 x1 x2 x3 x4 x1 (xs ((x4 + 1)).toNat).toInt (xs ((x4 + 2)).toNat).toInt 1 s))))))))
def zf_0_1334 (L : Nat) (xs : Nat → Int32) (zk23 : Nat → Nat → Nat → Int → zS → zR) (x1 : Nat) (x2 : Nat) (x3 : Nat) (x4 : Int) (s : zS) : zR := zC (zf_247 x1 x3 s) fun v3 s2 => zC (zf_220 x2 s2) fun v6 s5 => zC (zf_144 x2 s5) fun v9 s8 => if v9 = v3 then (if v3 = 0 then (zn 0 1 (if (lg_cmp (Int64.ofInt (s8.1 1000 x3 0)) (Int32.ofInt v6).toInt64).toInt = 0 then (zg (x4 + 4) ((zk23 x1 x2 x3 (x4 + 4) s8))) else (zz 0 s8))) else (zg (x4 + 4) ((zk23 x1 x2 x3 (x4 + 4) s8)))) else (zz 0 s8)
def zf_0_1378 (L : Nat) (xs : Nat → Int32) (zk23 : Nat → Nat → Nat → Int → zS → zR) (x1 : Nat) (x2 : Nat) (x3 : Nat) (x4 : Int) (s : zS) : zR := zg (x4 + 1) (zn (x4 + 1) L (zg (x4 + 2) (zn (x4 + 2) L (zg (x4 + 3) (zn (x4 + 3) L (zC (zf_248 x1 (xs ((x4 + 1)).toNat).toInt (xs ((x4 + 2)).toNat).toInt (xs ((x4 + 3)).toNat).toInt x3 s) fun v6 s5 => zn (x4 + 1) L (zn (x4 + 2) L (zn (x4 + 3) L (zC (zf_224 x2 (xs ((x4 + 1)).toNat).toInt (xs ((x4 + 2)).toNat).toInt (xs ((x4 + 3)).toNat).toInt s5) fun v9 s8 => zC (zf_144 x2 s8) fun v12 s11 => if v12 = v6 then (if v6 = 0 then (zn 0 1 (if (lg_cmp (Int64.ofInt (s11.1 1000 x3 0)) (Int32.ofInt v9).toInt64).toInt = 0 then (zg (x4 + 4) ((zk23 x1 x2 x3 (x4 + 4) s11))) else (zz 0 s11))) else (zg (x4 + 4) ((zk23 x1 x2 x3 (x4 + 4) s11)))) else (zz 0 s11))))))))))
def zf_0_1458 (L : Nat) (xs : Nat → Int32) (zk23 : Nat → Nat → Nat → Int → zS → zR) (x1 : Nat) (x2 : Nat) (x3 : Nat) (x4 : Int) (s : zS) : zR := zg (x4 + 1) (zn (x4 + 1) L (zg (x4 + 2) (zn (x4 + 2) L (zC (zf_249 x1 (xs ((x4 + 1)).toNat).toInt (xs ((x4 + 2)).toNat).toInt x3 s) fun v5 s4 => zn (x4 + 1) L (zn (x4 + 2) L (zC (zf_226 x2 (xs ((x4 + 1)).toNat).toInt (xs ((x4 + 2)).toNat).toInt s4) fun v8 s7 => zC (zf_144 x2 s7) fun v11 s10 => if v11 = v5 then (if v5 = 0 then (zn 0 1 (if (lg_cmp (Int64.ofInt (s10.1 1000 x3 0)) (Int32.ofInt v8).toInt64).toInt = 0 then (zg (x4 + 4) ((zk23 x1 x2 x3 (x4 + 4) s10))) else (zz 0 s10))) else (zg (x4 + 4) ((zk23 x1 x2 x3 (x4 + 4) s10)))) else (zz 0 s10)))))))
def zf_0_23 (L : Nat) (xs : Nat → Int32) : Nat → Nat → Nat → Nat → Int → zS → zR
  | 0, _, _, _, _, _ => none
  | n + 1, x1, x2, x3, x4, s => zg ((L : Int) - 4) (if ((L : Int) - 4) < x4 then (zz 1 s) else (zn x4 L (if (zand (xs (x4).toNat).toInt 31) = 0 then ((zf_0_152 L xs (fun y0 y1 y2 y3 y => (zf_0_23 L xs n y0 y1 y2 y3 y)) x1 x2 x3 x4 s)) else (if (zand (xs (x4).toNat).toInt 31) = 1 then ((zf_0_252 L xs (fun y0 y1 y2 y3 y => (zf_0_23 L xs n y0 y1 y2 y3 y)) x1 x2 x3 x4 s)) else (if (zand (xs (x4).toNat).toInt 31) = 2 then ((zf_0_296 L xs (fun y0 y1 y2 y3 y => (zf_0_23 L xs n y0 y1 y2 y3 y)) x1 x2 x3 x4 s)) else (if (zand (xs (x4).toNat).toInt 31) = 3 then ((zf_0_352 L xs (fun y0 y1 y2 y3 y => (zf_0_23 L xs n y0 y1 y2 y3 y)) x1 x2 x3 x4 s)) else (if (zand (xs (x4).toNat).toInt 31) = 4 then ((zf_0_365 L xs (fun y0 y1 y2 y3 y => (zf_0_23 L xs n y0 y1 y2 y3 y)) x1 x2 x3 x4 s)) else (if (zand (xs (x4).toNat).toInt 31) = 5 then ((zf_0_421 L xs (fun y0 y1 y2 y3 y => (zf_0_23 L xs n y0 y1 y2 y3 y)) x1 x2 x3 x4 s)) else (if (zand (xs (x4).toNat).toInt 31) = 6 then ((zf_0_434 L xs (fun y0 y1 y2 y3 y => (zf_0_23 L xs n y0 y1 y2 y3 y)) x1 x2 x3 x4 s)) else (if (zand (xs (x4).toNat).toInt 31) = 7 then ((zf_0_490 L xs (fun y0 y1 y2 y3 y => (zf_0_23 L xs n y0 y1 y2 y3 y)) x1 x2 x3 x4 s)) else (if (zand (xs (x4).toNat).toInt 31) = 8 then ((zf_0_546 L xs (fun y0 y1 y2 y3 y => (zf_0_23 L xs n y0 y1 y2 y3 y)) x1 x2 x3 x4 s)) else (if (zand (xs (x4).toNat).toInt 31) = 9 then ((zf_0_559 L xs (fun y0 y1 y2 y3 y => (zf_0_23 L xs n y0 y1 y2 y3 y)) x1 x2 x3 x4 s)) else (if (zand (xs (x4).toNat).toInt 31) = 10 then ((zf_0_643 L xs (fun y0 y1 y2 y3 y => (zf_0_23 L xs n y0 y1 y2 y3 y)) x1 x2 x3 x4 s)) else (if (zand (xs (x4).toNat).toInt 31) = 11 then ((zf_0_656 L xs (fun y0 y1 y2 y3 y => (zf_0_23 L xs n y0 y1 y2 y3 y)) x1 x2 x3 x4 s)) else (if (zand (xs (x4).toNat).toInt 31) = 12 then ((zf_0_724 L xs (fun y0 y1 y2 y3 y => (zf_0_23 L xs n y0 y1 y2 y3 y)) x1 x2 x3 x4 s)) else (if (zand (xs (x4).toNat).toInt 31) = 13 then ((zf_0_737 L xs (fun y0 y1 y2 y3 y => (zf_0_23 L xs n y0 y1 y2 y3 y)) x1 x2 x3 x4 s)) else (if (zand (xs (x4).toNat).toInt 31) = 14 then ((zf_0_750 L xs (fun y0 y1 y2 y3 y => (zf_0_23 L xs n y0 y1 y2 y3 y)) x1 x2 x3 x4 s)) else (if (zand (xs (x4).toNat).toInt 31) = 15 then ((zf_0_806 L xs (fun y0 y1 y2 y3 y => (zf_0_23 L xs n y0 y1 y2 y3 y)) x1 x2 x3 x4 s)) else (if (zand (xs (x4).toNat).toInt 31) = 16 then ((zf_0_862 L xs (fun y0 y1 y2 y3 y => (zf_0_23 L xs n y0 y1 y2 y3 y)) x1 x2 x3 x4 s)) else (if (zand (xs (x4).toNat).toInt 31) = 17 then ((zf_0_942 L xs (fun y0 y1 y2 y3 y => (zf_0_23 L xs n y0 y1 y2 y3 y)) x1 x2 x3 x4 s)) else (if (zand (xs (x4).toNat).toInt 31) = 18 then ((zf_0_1022 L xs (fun y0 y1 y2 y3 y => (zf_0_23 L xs n y0 y1 y2 y3 y)) x1 x2 x3 x4 s)) else (if (zand (xs (x4).toNat).toInt 31) = 19 then ((zf_0_1090 L xs (fun y0 y1 y2 y3 y => (zf_0_23 L xs n y0 y1 y2 y3 y)) x1 x2 x3 x4 s)) else (if (zand (xs (x4).toNat).toInt 31) = 20 then ((zf_0_1170 L xs (fun y0 y1 y2 y3 y => (zf_0_23 L xs n y0 y1 y2 y3 y)) x1 x2 x3 x4 s)) else (if (zand (xs (x4).toNat).toInt 31) = 21 then ((zf_0_1238 L xs (fun y0 y1 y2 y3 y => (zf_0_23 L xs n y0 y1 y2 y3 y)) x1 x2 x3 x4 s)) else (if (zand (xs (x4).toNat).toInt 31) = 22 then ((zf_0_1334 L xs (fun y0 y1 y2 y3 y => (zf_0_23 L xs n y0 y1 y2 y3 y)) x1 x2 x3 x4 s)) else (if (zand (xs (x4).toNat).toInt 31) = 23 then ((zf_0_1378 L xs (fun y0 y1 y2 y3 y => (zf_0_23 L xs n y0 y1 y2 y3 y)) x1 x2 x3 x4 s)) else (if (zand (xs (x4).toNat).toInt 31) = 24 then ((zf_0_1458 L xs (fun y0 y1 y2 y3 y => (zf_0_23 L xs n y0 y1 y2 y3 y)) x1 x2 x3 x4 s)) else (zg (x4 + 4) ((zf_0_23 L xs n x1 x2 x3 (x4 + 4) s))))))))))))))))))))))))))))))
