def f_X6_isRow (x0 : Int32) : Int32 :=
  (if x0 < 0 then (0 : Int32)
  else (if (8 : Int32) ≤ x0 then (0 : Int32)
  else (1 : Int32)))
def f_X6_find (x1 : Int32) (m : Mm) : Option (Int32 × Mm) :=
  (nm_ ((st_ m 0 9 x1) : Mm) fun m1 => (some (((-1000010 : Int32) - x1), m1)))
def lb_X4_make_17 (rec : Int32 → Mm → Option Mm) (w0 : Nat) (y3 : Int32) (m : Mm) : Option Mm :=
  (if (40 : Int32) ≤ y3 then (some m)
  else (gd_ (¬ (y3 < 0 ∨ 40 ≤ ix y3)) (nm_ ((st_ m (w0 + 1) (ix y3) (0 : Int32)) : Mm) fun m5 => (nm_ ((y3 + (1 : Int32)) : Int32) fun v6 => (rec v6 m5)))))
def lp_X4_make_17 (w0 : Nat) : Nat → Int32 → Mm → Option Mm
  | 0, _, _ => none
  | n + 1, y3, m => lb_X4_make_17 (lp_X4_make_17 w0 n) w0 y3 m
def f_X4_make (w0 : Nat) (x1 : Int32) (x2 : Int32) (m : Mm) : Option Mm :=
  (nm_ ((st_ m w0 0 (1 : Int32)) : Mm) fun m1 => (nm_ ((st_ m1 w0 1 x1) : Mm) fun m2 => (nm_ ((st_ m2 w0 2 x2) : Mm) fun m3 => (bd1 (lp_X4_make_17 w0 FU (0 : Int32) m3) fun m8 => (some m8)))))
def f_X6_findNothing (x1 : Int32) (m : Mm) : Option (Int32 × Mm) :=
  (nm_ ((st_ m 0 9 (0 : Int32)) : Mm) fun m1 => (some (x1, m1)))
def f_X6_row (x1 : Int32) (x2 : Int32) (x3 : Int32) (m : Mm) : Option (Int32 × Mm) :=
  (if (f_X6_isRow x1) = 0 then (some ((-1000001 : Int32), m))
  else (if x2 < 0 then (some ((-1000001 : Int32), m))
  else (if (3 : Int32) ≤ x2 then (some ((-1000001 : Int32), m))
  else (if x3 ≤ (40 : Int32) then (if 0 ≤ x3 then (gd_ (¬ (x1 < 0 ∨ 8 ≤ ix x1)) (nm_ ((rf 1 (ix x1)) : Nat) fun w7 => (bd1 (f_X4_make w7 x2 x3 m) fun m8 => (bd2 (f_X6_findNothing x3 m8) fun r10 m9 => (some (r10, m9))))))
  else (bd2 (f_X6_find (4 : Int32) m) fun r12 m11 => (some (r12, m11))))
  else (some ((-1000001 : Int32), m))))))
def f_X4_spans (w0 : Nat) (x1 : Int32) (x2 : Int32) (m : Mm) : Int32 :=
  (if x1 < 0 then (0 : Int32)
  else (if x2 < 0 then (0 : Int32)
  else (if (m w0 2) < x1 then (0 : Int32)
  else (if ((m w0 2) - x1) < x2 then (0 : Int32)
  else (1 : Int32)))))
def f_X4_cut (w0 : Nat) (x1 : Int32) (m : Mm) : Int32 :=
  (nm_ ((m w0 1) : Int32) fun v1 => (if v1 = (0 : Int32) then (x1).toInt8.toInt32
  else (if v1 = (1 : Int32) then (x1).toInt16.toInt32
  else x1)))
def f_X4_put (w0 : Nat) (x1 : Int32) (x2 : Int32) (m : Mm) : Option (Int32 × Mm) :=
  (nm_ ((f_X4_cut w0 x2 m) : Int32) fun v1 => (gd_ (¬ (x1 < 0 ∨ 40 ≤ ix x1)) (nm_ ((st_ m (w0 + 1) (ix x1) v1) : Mm) fun m2 => (gd_ (¬ (x1 < 0 ∨ 40 ≤ ix x1)) (some ((m2 (w0 + 1) (ix x1)), m2))))))
def f_X6_set (x1 : Int32) (x2 : Int32) (x3 : Int32) (m : Mm) : Option (Int32 × Mm) :=
  (if (f_X6_isRow x1) = 0 then (some ((-1000001 : Int32), m))
  else (gd_ (¬ (x1 < 0 ∨ 8 ≤ ix x1)) (nm_ ((rf 1 (ix x1)) : Nat) fun w3 => (if (m w3 0) = 0 then (bd2 (f_X6_find (1 : Int32) m) fun r17 m16 => (some (r17, m16)))
  else (gd_ (¬ (x1 < 0 ∨ 8 ≤ ix x1)) (nm_ ((rf 1 (ix x1)) : Nat) fun w6 => (if (f_X4_spans w6 x2 (1 : Int32) m) = 0 then (bd2 (f_X6_find (2 : Int32) m) fun r15 m14 => (some (r15, m14)))
  else (gd_ (¬ (x1 < 0 ∨ 8 ≤ ix x1)) (nm_ ((rf 1 (ix x1)) : Nat) fun w9 => (bd2 (f_X4_put w9 x2 x3 m) fun r11 m10 => (bd2 (f_X6_findNothing r11 m10) fun r13 m12 => (some (r13, m12)))))))))))))
def f_X6_copy (x1 : Int32) (x2 : Int32) (x3 : Int32) (x4 : Int32) (x5 : Int32) (m : Mm) : Option (Int32 × Mm) :=
  (if (f_X6_isRow x1) = 0 then (some ((-1000001 : Int32), m))
  else (if (f_X6_isRow x3) = 0 then (some ((-1000001 : Int32), m))
  else (gd_ (¬ (x1 < 0 ∨ 8 ≤ ix x1)) (nm_ ((rf 1 (ix x1)) : Nat) fun w4 => (gd_ (¬ (x3 < 0 ∨ 8 ≤ ix x3)) (nm_ ((rf 1 (ix x3)) : Nat) fun w6 => (if (m w4 0) = 0 then (bd2 (f_X6_find (1 : Int32) m) fun r9 m8 => (some (r9, m8)))
  else (if (m w6 0) = 0 then (bd2 (f_X6_find (1 : Int32) m) fun r25 m24 => (some (r25, m24)))
  else (if (m w4 1) = (m w6 1) then (if (f_X4_spans w4 x2 x5 m) = 0 then (bd2 (f_X6_find (2 : Int32) m) fun r14 m13 => (some (r14, m13)))
  else (if (f_X4_spans w6 x4 x5 m) = 0 then (bd2 (f_X6_find (2 : Int32) m) fun r21 m20 => (some (r21, m20)))
  else (gd_ ((¬ x2 < 0 ∧ ¬ x4 < 0 ∧ ¬ x5 < 0 ∧ ix x2 + ix x5 ≤ 40 ∧ ix x4 + ix x5 ≤ 40)) (nm_ ((cp_ m (w4 + 1) (ix x2) (w6 + 1) (ix x4) (ix x5)) : Mm) fun m16 => (bd2 (f_X6_findNothing x5 m16) fun r18 m17 => (some (r18, m17)))))))
  else (bd2 (f_X6_find (5 : Int32) m) fun r23 m22 => (some (r23, m22))))))))))))
def f_X6_drop (x1 : Int32) (m : Mm) : Option (Int32 × Mm) :=
  (if (f_X6_isRow x1) = 0 then (some ((-1000001 : Int32), m))
  else (gd_ (¬ (x1 < 0 ∨ 8 ≤ ix x1)) (nm_ ((rf 1 (ix x1)) : Nat) fun w3 => (if (m w3 0) = 0 then (bd2 (f_X6_find (1 : Int32) m) fun r13 m12 => (some (r13, m12)))
  else (gd_ (¬ (x1 < 0 ∨ 8 ≤ ix x1)) (nm_ ((rf 1 (ix x1)) : Nat) fun w6 => (nm_ ((st_ m w6 0 (0 : Int32)) : Mm) fun m7 => (gd_ (¬ (x1 < 0 ∨ 8 ≤ ix x1)) (nm_ ((rf 1 (ix x1)) : Nat) fun w9 => (bd2 (f_X6_findNothing (m7 w9 2) m7) fun r11 m10 => (some (r11, m10))))))))))))
def f_X3_take (x1 : Int32) (m : Mm) : Option (Int32 × Mm) :=
  (if (m 2 2) < (110 : Int32) then (gd_ (¬ ((m 2 2) < 0 ∨ 110 ≤ ix (m 2 2))) (nm_ ((st_ m 12 (ix (m 2 2)) x1) : Mm) fun m2 => (nm_ (((m2 2 2) + (1 : Int32)) : Int32) fun v3 => (nm_ ((st_ m2 2 2 v3) : Mm) fun m4 => (some ((1 : Int32), m4))))))
  else (some ((0 : Int32), m)))
def f_X6_feed (x1 : Int32) (m : Mm) : Option (Int32 × Mm) :=
  (if x1 < 0 then (some ((-1000001 : Int32), m))
  else (if x1 ≤ (255 : Int32) then (bd2 (f_X3_take x1 m) fun r4 m3 => (if r4 = 0 then (some ((-1000003 : Int32), m3))
  else (some ((m3 2 2), m3))))
  else (some ((-1000001 : Int32), m))))
def f_X3_refuse (x1 : Int32) (m : Mm) : Option (Int32 × Mm) :=
  (nm_ ((st_ m 2 4 x1) : Mm) fun m1 => (some ((0 : Int32), m1)))
def f_X3_sign (x1 : Int32) (m : Mm) : Option (Int32 × Mm) :=
  (if (m 2 2) ≤ (m 2 3) then (bd2 (f_X3_refuse (1 : Int32) m) fun r3 m2 => (gd_ ((r3 = 0 ∨ r3 = 1)) (some (r3, m2))))
  else (gd_ (¬ ((m 2 3) < 0 ∨ 110 ≤ ix (m 2 3))) (if (m 12 (ix (m 2 3))) = x1 then (nm_ (((m 2 3) + (1 : Int32)) : Int32) fun v7 => (nm_ ((st_ m 2 3 v7) : Mm) fun m8 => (some ((1 : Int32), m8))))
  else (bd2 (f_X3_refuse (1 : Int32) m) fun r10 m9 => (gd_ ((r10 = 0 ∨ r10 = 1)) (some (r10, m9)))))))
def f_X3_isFigure (x0 : Int32) : Int32 :=
  (if x0 < (48 : Int32) then (0 : Int32)
  else (if (57 : Int32) < x0 then (0 : Int32)
  else (1 : Int32)))
def lb_X3_number_8 (rec : Int32 → Int32 → Int32 → Int32 → Mm → Option (Int32 × Int32))  (y1 : Int32) (y2 : Int32) (y3 : Int32) (y4 : Int32) (m : Mm) : Option (Int32 × Int32) :=
  (if (m 2 2) ≤ y3 then (some (y3, y4))
  else (if ((m 2 3) + (3 : Int32)) ≤ y3 then (some (y3, y4))
  else (gd_ (¬ (y3 < 0 ∨ 110 ≤ ix y3)) (if (f_X3_isFigure (m 12 (ix y3))) = 0 then (some (y3, y4))
  else (gd_ (¬ (y3 < 0 ∨ 110 ≤ ix y3)) (nm_ ((((y4 * (10 : Int32)) + (m 12 (ix y3))) - (48 : Int32)) : Int32) fun v7 => (nm_ ((y3 + (1 : Int32)) : Int32) fun v8 => (rec y1 y2 v8 v7 m))))))))
def lp_X3_number_8  : Nat → Int32 → Int32 → Int32 → Int32 → Mm → Option (Int32 × Int32)
  | 0, _, _, _, _, _ => none
  | n + 1, y1, y2, y3, y4, m => lb_X3_number_8 (lp_X3_number_8 n) y1 y2 y3 y4 m
def f_X3_number (x1 : Int32) (x2 : Int32) (m : Mm) : Option (Int32 × Mm) :=
  (nm_ ((m 2 3) : Int32) fun v1 => (bd2 (lp_X3_number_8 FU x1 x2 v1 (0 : Int32) m) fun z9 z10 => (if z9 = (m 2 3) then (bd2 (f_X3_refuse (1 : Int32) m) fun r14 m13 => (some ((-1 : Int32), m13)))
  else (if z9 = ((m 2 3) + (3 : Int32)) then (bd2 (f_X3_refuse (1 : Int32) m) fun r24 m23 => (some ((-1 : Int32), m23)))
  else (if z10 < x1 then (bd2 (f_X3_refuse (2 : Int32) m) fun r18 m17 => (some ((-1 : Int32), m17)))
  else (if z10 ≤ x2 then (nm_ ((st_ m 2 3 z9) : Mm) fun m20 => (some (z10, m20)))
  else (bd2 (f_X3_refuse (2 : Int32) m) fun r22 m21 => (some ((-1 : Int32), m21)))))))))
def f_X3_readLaw  (m : Mm) : Option (Int32 × Mm) :=
  (bd2 (f_X3_sign (119 : Int32) m) fun r2 m1 => (if r2 = 0 then (some ((0 : Int32), m1))
  else (bd2 (f_X3_number (1 : Int32) (99 : Int32) m1) fun r5 m4 => (nm_ ((st_ m4 3 1 r5) : Mm) fun m6 => (if (m6 3 1) < 0 then (some ((0 : Int32), m6))
  else (bd2 (f_X3_sign (44 : Int32) m6) fun r9 m8 => (if r9 = 0 then (some ((0 : Int32), m8))
  else (bd2 (f_X3_number (0 : Int32) (15 : Int32) m8) fun r12 m11 => (nm_ ((st_ m11 3 2 r12) : Mm) fun m13 => (if (m13 3 2) < 0 then (some ((0 : Int32), m13))
  else (bd2 (f_X3_sign (59 : Int32) m13) fun r16 m15 => (if r16 = 0 then (some ((0 : Int32), m15))
  else (some ((1 : Int32), m15))))))))))))))
def f_X3_sortOf (x0 : Int32) : Int32 :=
  (if x0 = (97 : Int32) then (1 : Int32)
  else (if x0 = (99 : Int32) then (3 : Int32)
  else (if x0 = (109 : Int32) then (4 : Int32)
  else (if x0 = (111 : Int32) then (5 : Int32)
  else (if x0 = (114 : Int32) then (2 : Int32)
  else (0 : Int32))))))
def f_X5_welcome (w0 : Nat) (x1 : Int32) (x2 : Int32) (x3 : Int32) (x4 : Int32) (m : Mm) : Option Mm :=
  (gd_ (¬ ((m w0 0) < 0 ∨ 7 ≤ ix (m w0 0))) (nm_ ((st_ m (w0 + 1) (ix (m w0 0)) x1) : Mm) fun m1 => (gd_ (¬ ((m1 w0 0) < 0 ∨ 7 ≤ ix (m1 w0 0))) (nm_ ((st_ m1 (w0 + 2) (ix (m1 w0 0)) x2) : Mm) fun m2 => (gd_ (¬ ((m2 w0 0) < 0 ∨ 7 ≤ ix (m2 w0 0))) (nm_ ((st_ m2 (w0 + 4) (ix (m2 w0 0)) x3) : Mm) fun m3 => (gd_ (¬ ((m3 w0 0) < 0 ∨ 7 ≤ ix (m3 w0 0))) (nm_ ((st_ m3 (w0 + 3) (ix (m3 w0 0)) x4) : Mm) fun m4 => (gd_ (¬ ((m4 w0 0) < 0 ∨ 7 ≤ ix (m4 w0 0))) (nm_ ((st_ m4 (w0 + 5) (ix (m4 w0 0)) (0 : Int32)) : Mm) fun m5 => (nm_ ((m5 w0 0) : Int32) fun v6 => (gd_ (¬ ((m5 w0 0) < 0 ∨ 7 ≤ ix (m5 w0 0))) (nm_ ((st_ m5 (w0 + 6) (ix (m5 w0 0)) v6) : Mm) fun m7 => (nm_ ((m7 w0 0) : Int32) fun v8 => (gd_ (¬ ((m7 w0 0) < 0 ∨ 7 ≤ ix (m7 w0 0))) (nm_ ((st_ m7 (w0 + 7) (ix (m7 w0 0)) v8) : Mm) fun m9 => (nm_ (((m9 w0 6) ||| ((1 : Int32) <<< ((m9 w0 0) &&& 31))) : Int32) fun v10 => (nm_ ((st_ m9 w0 6 v10) : Mm) fun m11 => (nm_ (((m11 w0 0) + (1 : Int32)) : Int32) fun v12 => (nm_ ((st_ m11 w0 0 v12) : Mm) fun m13 => (some m13)))))))))))))))))))))
def f_X3_readGuest  (m : Mm) : Option (Int32 × Mm) :=
  (bd1 ((if (m 2 2) ≤ (m 2 3) then (some (0 : Int32))
  else (gd_ (¬ ((m 2 3) < 0 ∨ 110 ≤ ix (m 2 3))) (some (f_X3_sortOf (m 12 (ix (m 2 3))))))) : Option Int32) fun j3 => (if j3 = 0 then (bd2 (f_X3_refuse (1 : Int32) m) fun r31 m30 => (gd_ ((r31 = 0 ∨ r31 = 1)) (some (r31, m30))))
  else (if (m 3 0) < (7 : Int32) then (nm_ (((m 2 3) + (1 : Int32)) : Int32) fun v6 => (nm_ ((st_ m 2 3 v6) : Mm) fun m7 => (bd2 (f_X3_number (0 : Int32) (9 : Int32) m7) fun r9 m8 => (if r9 < 0 then (some ((0 : Int32), m8))
  else (bd2 (f_X3_sign (44 : Int32) m8) fun r12 m11 => (if r12 = 0 then (some ((0 : Int32), m11))
  else (bd2 (f_X3_number (0 : Int32) (99 : Int32) m11) fun r15 m14 => (if r15 < 0 then (some ((0 : Int32), m14))
  else (bd2 (f_X3_sign (44 : Int32) m14) fun r18 m17 => (if r18 = 0 then (some ((0 : Int32), m17))
  else (bd2 (f_X3_number (0 : Int32) (9 : Int32) m17) fun r21 m20 => (if r21 < 0 then (some ((0 : Int32), m20))
  else (bd2 (f_X3_sign (59 : Int32) m20) fun r24 m23 => (if r24 = 0 then (some ((0 : Int32), m23))
  else (bd1 (f_X5_welcome 3 j3 r9 r15 r21 m23) fun m26 => (some ((1 : Int32), m26)))))))))))))))))
  else (bd2 (f_X3_refuse (3 : Int32) m) fun r28 m27 => (gd_ ((r28 = 0 ∨ r28 = 1)) (some (r28, m27)))))))
def lb_X3_read_43 (rec : Int32 → Int32 → Mm → Option (Int32 × Mm))  (y1 : Int32) (y2 : Int32) (m : Mm) : Option (Int32 × Mm) :=
  (if (110 : Int32) ≤ y2 then (some (y1, m))
  else (if y1 = 0 then (some (y1, m))
  else (if (m 2 2) ≤ (m 2 3) then (some (y1, m))
  else (bd2 (f_X3_readGuest m) fun r16 m15 => (nm_ ((y2 + (1 : Int32)) : Int32) fun v17 => (rec r16 v17 m15))))))
def lp_X3_read_43  : Nat → Int32 → Int32 → Mm → Option (Int32 × Mm)
  | 0, _, _, _ => none
  | n + 1, y1, y2, m => lb_X3_read_43 (lp_X3_read_43 n) y1 y2 m
def f_X3_read  (m : Mm) : Option (Int32 × Mm) :=
  (nm_ ((st_ m 2 3 (0 : Int32)) : Mm) fun m1 => (nm_ ((st_ m1 3 0 (0 : Int32)) : Mm) fun m2 => (nm_ ((st_ m2 3 6 (0 : Int32)) : Mm) fun m3 => (bd2 (f_X3_readLaw m3) fun r5 m4 => (bd2 ((if r5 = 0 then (some ((0 : Int32), m4))
  else (bd2 (f_X3_readGuest m4) fun r8 m7 => (if r8 = 0 then (some ((0 : Int32), m7))
  else (some ((1 : Int32), m7))))) : Option (Int32 × Mm)) fun j10 m11 => (bd2 (lp_X3_read_43 FU j10 (0 : Int32) m11) fun z18 m19 => (nm_ ((st_ m19 2 2 (0 : Int32)) : Mm) fun m21 => (gd_ ((z18 = 0 ∨ z18 = 1)) (some (z18, m21))))))))))
def f_X5_become (w0 : Nat) (w1 : Nat) (m : Mm) : Option Mm :=
  (nm_ ((m w1 0) : Int32) fun v1 => (nm_ ((st_ m w0 0 v1) : Mm) fun m2 => (nm_ ((m2 w1 1) : Int32) fun v3 => (nm_ ((st_ m2 w0 1 v3) : Mm) fun m4 => (nm_ ((m4 w1 2) : Int32) fun v5 => (nm_ ((st_ m4 w0 2 v5) : Mm) fun m6 => (nm_ ((m6 w1 3) : Int32) fun v7 => (nm_ ((st_ m6 w0 3 v7) : Mm) fun m8 => (nm_ ((m8 w1 4) : Int32) fun v9 => (nm_ ((st_ m8 w0 4 v9) : Mm) fun m10 => (nm_ ((m10 w1 5) : Int32) fun v11 => (nm_ ((st_ m10 w0 5 v11) : Mm) fun m12 => (nm_ ((m12 w1 6) : Int32) fun v13 => (nm_ ((st_ m12 w0 6 v13) : Mm) fun m14 => (nm_ ((cp_ m14 (w1 + 1) (ix (0 : Int32)) (w0 + 1) (ix (0 : Int32)) (ix (7 : Int32))) : Mm) fun m15 => (nm_ ((cp_ m15 (w1 + 2) (ix (0 : Int32)) (w0 + 2) (ix (0 : Int32)) (ix (7 : Int32))) : Mm) fun m16 => (nm_ ((cp_ m16 (w1 + 3) (ix (0 : Int32)) (w0 + 3) (ix (0 : Int32)) (ix (7 : Int32))) : Mm) fun m17 => (nm_ ((cp_ m17 (w1 + 4) (ix (0 : Int32)) (w0 + 4) (ix (0 : Int32)) (ix (7 : Int32))) : Mm) fun m18 => (nm_ ((cp_ m18 (w1 + 5) (ix (0 : Int32)) (w0 + 5) (ix (0 : Int32)) (ix (7 : Int32))) : Mm) fun m19 => (nm_ ((cp_ m19 (w1 + 6) (ix (0 : Int32)) (w0 + 6) (ix (0 : Int32)) (ix (7 : Int32))) : Mm) fun m20 => (nm_ ((cp_ m20 (w1 + 7) (ix (0 : Int32)) (w0 + 7) (ix (0 : Int32)) (ix (7 : Int32))) : Mm) fun m21 => (some m21))))))))))))))))))))))
def f_X0_forget  (m : Mm) : Option Mm :=
  (nm_ ((st_ m 22 2 (0 : Int32)) : Mm) fun m1 => (some m1))
def f_X6_wedding  (m : Mm) : Option (Int32 × Mm) :=
  (bd2 (f_X3_read m) fun r2 m1 => (if r2 = 0 then (some (((-1000100 : Int32) - (m1 2 3)), m1))
  else (bd1 (f_X5_become 13 3 m1) fun m4 => (bd1 (f_X0_forget m4) fun m5 => (some ((m5 13 0), m5))))))
def f_X6_fault  (m : Mm) : Int32 :=
  (m 2 4)
def f_X6_isNone  (m : Mm) : Int32 :=
  (if (m 13 0) = 0 then (1 : Int32)
  else (0 : Int32))
def f_X0_keep (w1 : Nat) (m : Mm) : Option Mm :=
  (gd_ (¬ ((m 22 1) < 0 ∨ 24 ≤ ix (m 22 1))) (nm_ ((rf 23 (ix (m 22 1))) : Nat) fun w2 => (bd1 (f_X5_become w2 w1 m) fun m3 => (nm_ ((if (m3 22 1) = (23 : Int32) then (0 : Int32)
  else ((m3 22 1) + (1 : Int32))) : Int32) fun j5 => (nm_ ((st_ m3 22 1 j5) : Mm) fun m6 => (nm_ ((if ((m6 22 2) + (1 : Int32)) < (24 : Int32) then ((m6 22 2) + (1 : Int32)) else (24 : Int32)) : Int32) fun v7 => (nm_ ((st_ m6 22 2 v7) : Mm) fun m8 => (some m8))))))))
def f_X5_isHired (w0 : Nat) (x1 : Int32) (m : Mm) : Int32 :=
  (if (((m w0 6) >>> (x1 &&& 31)) &&& (1 : Int32)) = (1 : Int32) then (1 : Int32)
  else (0 : Int32))
def f_X5_lastIn (w0 : Nat) (x1 : Int32) (m : Mm) : Option Int32 :=
  (if x1 < 0 then (some (0 : Int32))
  else (if (m w0 0) ≤ x1 then (some (0 : Int32))
  else (gd_ (¬ (x1 < 0 ∨ 7 ≤ ix x1)) (gd_ (¬ ((m (w0 + 7) (ix x1)) < 0 ∨ 7 ≤ ix (m (w0 + 7) (ix x1)))) (some (m (w0 + 5) (ix (m (w0 + 7) (ix x1)))))))))
def f_X5_sheds (w0 : Nat) (x1 : Int32) (m : Mm) : Option Int32 :=
  (gd_ (¬ (x1 < 0 ∨ 7 ≤ ix x1)) (bd1 (f_X5_lastIn w0 ((m (w0 + 6) (ix x1)) - (1 : Int32)) m) fun r2 => (gd_ (¬ (x1 < 0 ∨ 7 ≤ ix x1)) (bd1 (f_X5_lastIn w0 ((m (w0 + 6) (ix x1)) + (1 : Int32)) m) fun r4 => (gd_ (¬ (x1 < 0 ∨ 7 ≤ ix x1)) (nm_ ((if r2 ≤ 0 then (0 : Int32)
  else (1 : Int32)) : Int32) fun j7 => (nm_ ((if r4 ≤ 0 then (0 : Int32)
  else (1 : Int32)) : Int32) fun j9 => (nm_ ((((m (w0 + 2) (ix x1)) + j7) + j9) : Int32) fun v10 => (bd1 ((if (((m w0 2) >>> (((m w0 3) &&& (3 : Int32)) &&& 31)) &&& (1 : Int32)) = (1 : Int32) then (gd_ (¬ (x1 < 0 ∨ 7 ≤ ix x1)) (some (m (w0 + 2) (ix x1))))
  else (some (0 : Int32))) : Option Int32) fun j13 => (gd_ (¬ (x1 < 0 ∨ 7 ≤ ix x1)) (nm_ ((m (w0 + 1) (ix x1)) : Int32) fun v15 => (bd1 ((if v15 = (2 : Int32) then (bd1 ((if 0 < r2 then (nm_ ((if r2 < r4 then r4 else r2) : Int32) fun v17 => (nm_ ((if v10 < (v17 + (1 : Int32)) then (v17 + (1 : Int32)) else v10) : Int32) fun v18 => (some v18)))
  else (if r4 ≤ 0 then (some v10)
  else (nm_ ((if r2 < r4 then r4 else r2) : Int32) fun v20 => (nm_ ((if v10 < (v20 + (1 : Int32)) then (v20 + (1 : Int32)) else v10) : Int32) fun v21 => (some v21))))) : Option Int32) fun j22 => (some j22))
  else (if v15 = (3 : Int32) then (nm_ ((if ((m w0 3) &&& (1 : Int32)) = (1 : Int32) then (0 : Int32)
  else v10) : Int32) fun j24 => (some j24))
  else (if v15 = (4 : Int32) then (some j13)
  else (if v15 = (5 : Int32) then (nm_ ((j13 + (2 : Int32)) : Int32) fun v25 => (some v25))
  else (some v10))))) : Option Int32) fun j27 => (nm_ ((if (9 : Int32) < j27 then (9 : Int32) else j27) : Int32) fun v28 => (gd_ (¬ (x1 < 0 ∨ 7 ≤ ix x1)) (nm_ ((if (m (w0 + 4) (ix x1)) < v28 then (m (w0 + 4) (ix x1)) else v28) : Int32) fun v30 => (some v30))))))))))))))))
def lb_X5_pass_2 (rec : Int32 → Mm → Option Mm) (w0 : Nat) (y1 : Int32) (m : Mm) : Option Mm :=
  (if (m w0 0) ≤ y1 then (some m)
  else (bd1 ((if (f_X5_isHired w0 y1 m) = 0 then (some (0 : Int32))
  else (bd1 (f_X5_sheds w0 y1 m) fun r3 => (some r3))) : Option Int32) fun j4 => (gd_ (¬ (y1 < 0 ∨ 7 ≤ ix y1)) (nm_ ((st_ m (w0 + 8) (ix y1) j4) : Mm) fun m5 => (nm_ ((y1 + (1 : Int32)) : Int32) fun v6 => (rec v6 m5))))))
def lp_X5_pass_2 (w0 : Nat) : Nat → Int32 → Mm → Option Mm
  | 0, _, _ => none
  | n + 1, y1, m => lb_X5_pass_2 (lp_X5_pass_2 w0 n) w0 y1 m
def lb_X5_pass_48 (rec : Int32 → Int32 → Int32 → Int32 → Mm → Option (Int32 × Int32 × Int32 × Mm)) (w0 : Nat) (y1 : Int32) (y2 : Int32) (y3 : Int32) (y4 : Int32) (m : Mm) : Option (Int32 × Int32 × Int32 × Mm) :=
  (if (m w0 0) ≤ y4 then (some (y1, y2, y3, m))
  else (gd_ (¬ (y4 < 0 ∨ 7 ≤ ix y4)) (nm_ ((m (w0 + 8) (ix y4)) : Int32) fun v12 => (gd_ (¬ (y4 < 0 ∨ 7 ≤ ix y4)) (nm_ ((st_ m (w0 + 5) (ix y4) v12) : Mm) fun m13 => (gd_ (¬ (y4 < 0 ∨ 7 ≤ ix y4)) (nm_ (((m13 (w0 + 4) (ix y4)) - v12) : Int32) fun v15 => (gd_ (¬ (y4 < 0 ∨ 7 ≤ ix y4)) (nm_ ((st_ m13 (w0 + 4) (ix y4) v15) : Mm) fun m16 => (gd_ (¬ (y4 < 0 ∨ 7 ≤ ix y4)) (bd3 ((if (m16 (w0 + 1) (ix y4)) = (5 : Int32) then (nm_ ((y2 + v12) : Int32) fun v22 => (some (y1, v22, y3)))
  else (nm_ ((y1 + v12) : Int32) fun v19 => (gd_ (¬ (y4 < 0 ∨ 7 ≤ ix y4)) (nm_ ((y3 + ((m16 (w0 + 3) (ix y4)) * v12)) : Int32) fun v21 => (some (v19, y2, v21)))))) : Option (Int32 × Int32 × Int32)) fun j23 j24 j25 => (nm_ ((y4 + (1 : Int32)) : Int32) fun v26 => (rec j23 j24 j25 v26 m16)))))))))))))
def lp_X5_pass_48 (w0 : Nat) : Nat → Int32 → Int32 → Int32 → Int32 → Mm → Option (Int32 × Int32 × Int32 × Mm)
  | 0, _, _, _, _, _ => none
  | n + 1, y1, y2, y3, y4, m => lb_X5_pass_48 (lp_X5_pass_48 w0 n) w0 y1 y2 y3 y4 m
def f_X5_pass (w0 : Nat) (m : Mm) : Option Mm :=
  (bd1 (lp_X5_pass_2 w0 FU (0 : Int32) m) fun m8 => (bd4 (lp_X5_pass_48 w0 FU (0 : Int32) (0 : Int32) (0 : Int32) (0 : Int32) m8) fun z29 z30 z31 m32 => (nm_ ((if ((m32 w0 4) + z29) < (999 : Int32) then ((m32 w0 4) + z29) else (999 : Int32)) : Int32) fun v34 => (nm_ ((if (0 : Int32) < (v34 - z30) then (v34 - z30) else (0 : Int32)) : Int32) fun v35 => (nm_ ((st_ m32 w0 4 v35) : Mm) fun m36 => (nm_ ((if ((m36 w0 5) + z31) < (99999 : Int32) then ((m36 w0 5) + z31) else (99999 : Int32)) : Int32) fun v37 => (nm_ ((st_ m36 w0 5 v37) : Mm) fun m38 => (nm_ (((m38 w0 3) + (1 : Int32)) : Int32) fun v39 => (nm_ ((st_ m38 w0 3 v39) : Mm) fun m40 => (some m40))))))))))
def lb_X6_minutes_44 (rec : Int32 → Int32 → Mm → Option Mm)  (y1 : Int32) (y2 : Int32) (m : Mm) : Option Mm :=
  (if y1 ≤ y2 then (some m)
  else (bd1 (f_X0_keep 13 m) fun m6 => (bd1 (f_X5_pass 13 m6) fun m7 => (nm_ ((y2 + (1 : Int32)) : Int32) fun v8 => (rec y1 v8 m7)))))
def lp_X6_minutes_44  : Nat → Int32 → Int32 → Mm → Option Mm
  | 0, _, _, _ => none
  | n + 1, y1, y2, m => lb_X6_minutes_44 (lp_X6_minutes_44 n) y1 y2 m
def f_X6_minutes (x1 : Int32) (m : Mm) : Option (Int32 × Mm) :=
  (if (f_X6_isNone m) = 0 then (if x1 < (1 : Int32) then (some ((-1000001 : Int32), m))
  else (if x1 ≤ (24 : Int32) then (if (m 13 3) ≤ ((9999 : Int32) - x1) then (bd1 (lp_X6_minutes_44 FU x1 (0 : Int32) m) fun m9 => (some ((m9 13 4), m9)))
  else (some ((-1000003 : Int32), m)))
  else (some ((-1000001 : Int32), m))))
  else (some ((-1000002 : Int32), m)))
def f_X5_has (w0 : Nat) (x1 : Int32) (m : Mm) : Int32 :=
  (if x1 < 0 then (0 : Int32)
  else (if (m w0 0) ≤ x1 then (0 : Int32)
  else (1 : Int32)))
def lb_X5_engage_7 (rec : Int32 → Mm → Option Mm) (w0 : Nat) (y2 : Int32) (m : Mm) : Option Mm :=
  (if (m w0 0) ≤ y2 then (some m)
  else (bd1 ((if (f_X5_isHired w0 y2 m) = 0 then (gd_ (¬ (y2 < 0 ∨ 7 ≤ ix y2)) (nm_ ((st_ m (w0 + 5) (ix y2) (0 : Int32)) : Mm) fun m4 => (some m4)))
  else (some m)) : Option Mm) fun m6 => (nm_ ((y2 + (1 : Int32)) : Int32) fun v7 => (rec v7 m6))))
def lp_X5_engage_7 (w0 : Nat) : Nat → Int32 → Mm → Option Mm
  | 0, _, _ => none
  | n + 1, y2, m => lb_X5_engage_7 (lp_X5_engage_7 w0 n) w0 y2 m
def f_X5_engage (w0 : Nat) (x1 : Int32) (m : Mm) : Option Mm :=
  (nm_ ((st_ m w0 6 x1) : Mm) fun m1 => (bd1 (lp_X5_engage_7 w0 FU (0 : Int32) m1) fun m8 => (some m8)))
def f_X6_hire (x1 : Int32) (x2 : Int32) (m : Mm) : Option (Int32 × Mm) :=
  (if (f_X5_has 13 x1 m) = 0 then (some ((-1000001 : Int32), m))
  else (if x2 < 0 then (some ((-1000001 : Int32), m))
  else (if x2 ≤ (1 : Int32) then (nm_ ((if x2 = (1 : Int32) then (1 : Int32)
  else (0 : Int32)) : Int32) fun j5 => (if (f_X5_isHired 13 x1 m) = j5 then (some ((-1000002 : Int32), m))
  else (bd1 (f_X0_keep 13 m) fun m7 => (bd1 (f_X5_engage 13 ((m7 13 6) ^^^ ((1 : Int32) <<< (x1 &&& 31))) m7) fun m8 => (some ((m8 13 6), m8))))))
  else (some ((-1000001 : Int32), m)))))
def f_X5_sit (w0 : Nat) (x1 : Int32) (x2 : Int32) (m : Mm) : Option Mm :=
  (gd_ (¬ (x1 < 0 ∨ 7 ≤ ix x1)) (nm_ ((st_ m (w0 + 6) (ix x1) x2) : Mm) fun m1 => (gd_ (¬ (x2 < 0 ∨ 7 ≤ ix x2)) (nm_ ((st_ m1 (w0 + 7) (ix x2) x1) : Mm) fun m2 => (some m2)))))
def f_X5_trade (w0 : Nat) (x1 : Int32) (x2 : Int32) (m : Mm) : Option Mm :=
  (gd_ (¬ (x1 < 0 ∨ 7 ≤ ix x1)) (nm_ ((m (w0 + 6) (ix x1)) : Int32) fun v2 => (gd_ (¬ (x2 < 0 ∨ 7 ≤ ix x2)) (bd1 (f_X5_sit w0 x1 (m (w0 + 6) (ix x2)) m) fun m4 => (bd1 (f_X5_sit w0 x2 v2 m4) fun m5 => (some m5))))))
def f_X6_swap (x1 : Int32) (x2 : Int32) (m : Mm) : Option (Int32 × Mm) :=
  (if (f_X5_has 13 x1 m) = 0 then (some ((-1000001 : Int32), m))
  else (if (f_X5_has 13 x2 m) = 0 then (some ((-1000001 : Int32), m))
  else (if x1 = x2 then (some ((-1000001 : Int32), m))
  else (bd1 (f_X0_keep 13 m) fun m4 => (bd1 (f_X5_trade 13 x1 x2 m4) fun m5 => (gd_ (¬ (x1 < 0 ∨ 7 ≤ ix x1)) (some ((m5 19 (ix x1)), m5))))))))
def f_X6_hymns (x1 : Int32) (m : Mm) : Option (Int32 × Mm) :=
  (if (f_X6_isNone m) = 0 then (if x1 < 0 then (some ((-1000001 : Int32), m))
  else (if x1 < (16 : Int32) then (bd1 (f_X0_keep 13 m) fun m4 => (nm_ ((m4 13 2) : Int32) fun v5 => (nm_ ((st_ m4 13 2 x1) : Mm) fun m6 => (some (v5, m6)))))
  else (some ((-1000001 : Int32), m))))
  else (some ((-1000002 : Int32), m)))
def f_X0_takeBack (w1 : Nat) (m : Mm) : Option Mm :=
  (nm_ ((if (m 22 1) = 0 then (23 : Int32)
  else ((m 22 1) - (1 : Int32))) : Int32) fun j2 => (nm_ ((st_ m 22 1 j2) : Mm) fun m3 => (nm_ (((m3 22 2) - (1 : Int32)) : Int32) fun v4 => (nm_ ((st_ m3 22 2 v4) : Mm) fun m5 => (gd_ (¬ ((m5 22 1) < 0 ∨ 24 ≤ ix (m5 22 1))) (nm_ ((rf 23 (ix (m5 22 1))) : Nat) fun w7 => (bd1 (f_X5_become w1 w7 m5) fun m8 => (some m8))))))))
def f_X6_undo  (m : Mm) : Option (Int32 × Mm) :=
  (if (m 22 2) = 0 then (some ((-1000002 : Int32), m))
  else (bd1 (f_X0_takeBack 13 m) fun m2 => (some ((m2 22 2), m2))))
def f_X6_guest (x1 : Int32) (x2 : Int32) (m : Mm) : Option Int32 :=
  (if (f_X5_has 13 x1 m) = 0 then (some (-1000001 : Int32))
  else (if x2 = (0 : Int32) then (gd_ (¬ (x1 < 0 ∨ 7 ≤ ix x1)) (some (m 15 (ix x1))))
  else (if x2 = (1 : Int32) then (gd_ (¬ (x1 < 0 ∨ 7 ≤ ix x1)) (some (m 17 (ix x1))))
  else (if x2 = (2 : Int32) then (gd_ (¬ (x1 < 0 ∨ 7 ≤ ix x1)) (some (m 16 (ix x1))))
  else (if x2 = (3 : Int32) then (gd_ (¬ (x1 < 0 ∨ 7 ≤ ix x1)) (some (m 19 (ix x1))))
  else (if x2 = (4 : Int32) then (if (f_X5_isHired 13 x1 m) = 0 then (some (0 : Int32))
  else (some (1 : Int32)))
  else (if x2 = (5 : Int32) then (gd_ (¬ (x1 < 0 ∨ 7 ≤ ix x1)) (some (m 18 (ix x1))))
  else (if x2 = (6 : Int32) then (bd1 (f_X5_sheds 13 x1 m) fun r8 => (some r8))
  else (some (-1000001 : Int32))))))))))
def f_X6_seat (x1 : Int32) (m : Mm) : Option Int32 :=
  (if (f_X5_has 13 x1 m) = 0 then (some (-1000001 : Int32))
  else (gd_ (¬ (x1 < 0 ∨ 7 ≤ ix x1)) (some (m 20 (ix x1)))))
def f_X6_isWithin (x0 : Int32) (x1 : Int32) (x2 : Int32) : Int32 :=
  (if x0 < x1 then (0 : Int32)
  else (if x2 < x0 then (0 : Int32)
  else (1 : Int32)))
def f_X6_isFlag (x0 : Int32) : Int32 :=
  (if x0 = 0 then (1 : Int32)
  else (if x0 = (1 : Int32) then (1 : Int32)
  else (0 : Int32)))
def lb_X5_run_2 (rec : Int32 → Int32 → Mm → Option Mm) (w0 : Nat) (y1 : Int32) (y2 : Int32) (m : Mm) : Option Mm :=
  (if y1 ≤ y2 then (some m)
  else (bd1 (f_X5_pass w0 m) fun m2 => (nm_ ((y2 + (1 : Int32)) : Int32) fun v3 => (rec y1 v3 m2))))
def lp_X5_run_2 (w0 : Nat) : Nat → Int32 → Int32 → Mm → Option Mm
  | 0, _, _, _ => none
  | n + 1, y1, y2, m => lb_X5_run_2 (lp_X5_run_2 w0 n) w0 y1 y2 m
def f_X5_run (w0 : Nat) (x1 : Int32) (m : Mm) : Option Mm :=
  (bd1 (lp_X5_run_2 w0 FU x1 (0 : Int32) m) fun m4 => (some m4))
def f_X1_after (w1 : Nat) (x2 : Int32) (m : Mm) : Option Mm :=
  (bd1 (f_X5_become 241 w1 m) fun m1 => (bd1 (f_X5_run 241 x2 m1) fun m2 => (some m2)))
def f_X6_ahead (x1 : Int32) (x2 : Int32) (x3 : Int32) (m : Mm) : Option (Int32 × Mm) :=
  (if (f_X5_has 13 x1 m) = 0 then (some ((-1000001 : Int32), m))
  else (if (f_X6_isWithin x2 (0 : Int32) (60 : Int32)) = 0 then (some ((-1000001 : Int32), m))
  else (if (f_X6_isFlag x3) = 0 then (some ((-1000001 : Int32), m))
  else (bd1 (f_X1_after 13 x2 m) fun m4 => (if x3 = 0 then (gd_ (¬ (x1 < 0 ∨ 7 ≤ ix x1)) (some ((m4 246 (ix x1)), m4)))
  else (gd_ (¬ (x1 < 0 ∨ 7 ≤ ix x1)) (some ((m4 245 (ix x1)), m4))))))))
def f_X6_bottle (x1 : Int32) (x2 : Int32) (m : Mm) : Option (Int32 × Mm) :=
  (if (f_X6_isNone m) = 0 then (if (f_X6_isWithin x1 (0 : Int32) (60 : Int32)) = 0 then (some ((-1000001 : Int32), m))
  else (if (f_X6_isFlag x2) = 0 then (some ((-1000001 : Int32), m))
  else (bd1 (f_X1_after 13 x1 m) fun m4 => (if x2 = 0 then (some ((m4 241 4), m4))
  else (some ((m4 241 5), m4))))))
  else (some ((-1000002 : Int32), m)))
def f_X5_isFull (w0 : Nat) (m : Mm) : Int32 :=
  (if (m w0 4) < (m w0 1) then (0 : Int32)
  else (1 : Int32))
def lb_X1_minutesToFull_10 (rec : Int32 → Mm → Option ((Int32 × Mm) ⊕ Mm))  (y2 : Int32) (m : Mm) : Option ((Int32 × Mm) ⊕ Mm) :=
  (if (60 : Int32) < y2 then (some (.inr m))
  else (if (f_X5_isFull 241 m) = 0 then (bd1 (f_X5_pass 241 m) fun m4 => (nm_ ((y2 + (1 : Int32)) : Int32) fun v5 => (rec v5 m4)))
  else (some (.inl (y2, m)))))
def lp_X1_minutesToFull_10  : Nat → Int32 → Mm → Option ((Int32 × Mm) ⊕ Mm)
  | 0, _, _ => none
  | n + 1, y2, m => lb_X1_minutesToFull_10 (lp_X1_minutesToFull_10 n) y2 m
def f_X1_minutesToFull (w1 : Nat) (m : Mm) : Option (Int32 × Mm) :=
  (bd1 (f_X5_become 241 w1 m) fun m1 => (bdS1 (lp_X1_minutesToFull_10 FU (0 : Int32) m1) fun m6 => (some ((-1000000 : Int32), m6))))
def f_X6_filled  (m : Mm) : Option (Int32 × Mm) :=
  (if (f_X6_isNone m) = 0 then (bd2 (f_X1_minutesToFull 13 m) fun r3 m2 => (some (r3, m2)))
  else (some ((-1000002 : Int32), m)))
def lb_X1_firstDry_2 (rec : Int32 → Mm → Option (Int32 ⊕ Int32))  (y1 : Int32) (m : Mm) : Option (Int32 ⊕ Int32) :=
  (if (m 241 0) ≤ y1 then (some (.inr (0 : Int32)))
  else (if (f_X5_isHired 241 y1 m) = 0 then (nm_ ((y1 + (1 : Int32)) : Int32) fun v3 => (rec v3 m))
  else (gd_ (¬ (y1 < 0 ∨ 7 ≤ ix y1)) (if (m 245 (ix y1)) = 0 then (some (.inl y1))
  else (nm_ ((y1 + (1 : Int32)) : Int32) fun v6 => (rec v6 m))))))
def lp_X1_firstDry_2  : Nat → Int32 → Mm → Option (Int32 ⊕ Int32)
  | 0, _, _ => none
  | n + 1, y1, m => lb_X1_firstDry_2 (lp_X1_firstDry_2 n) y1 m
def f_X1_firstDry  (m : Mm) : Option Int32 :=
  (bdS1 (lp_X1_firstDry_2 FU (0 : Int32) m) fun z7 => (some (-1000000 : Int32)))
def lb_X1_findDry_22 (rec : Int32 → Mm → Option Mm)  (y2 : Int32) (m : Mm) : Option Mm :=
  (if (60 : Int32) < y2 then (some m)
  else (if (m 240 2) = (-1000000 : Int32) then (bd1 (f_X1_firstDry m) fun r6 => (nm_ ((st_ m 240 2 r6) : Mm) fun m7 => (nm_ ((if (m7 240 2) = (-1000000 : Int32) then (-1000000 : Int32)
  else y2) : Int32) fun j9 => (nm_ ((st_ m7 240 3 j9) : Mm) fun m10 => (bd1 (f_X5_pass 241 m10) fun m11 => (nm_ ((y2 + (1 : Int32)) : Int32) fun v12 => (rec v12 m11)))))))
  else (some m)))
def lp_X1_findDry_22  : Nat → Int32 → Mm → Option Mm
  | 0, _, _ => none
  | n + 1, y2, m => lb_X1_findDry_22 (lp_X1_findDry_22 n) y2 m
def f_X1_findDry (w1 : Nat) (m : Mm) : Option Mm :=
  (nm_ ((st_ m 240 2 (-1000000 : Int32)) : Mm) fun m1 => (nm_ ((st_ m1 240 3 (-1000000 : Int32)) : Mm) fun m2 => (bd1 (f_X5_become 241 w1 m2) fun m3 => (bd1 (lp_X1_findDry_22 FU (0 : Int32) m3) fun m13 => (some m13)))))
def f_X1_answer (x1 : Int32) (m : Mm) : Int32 :=
  (if x1 = 0 then (m 240 2)
  else (m 240 3))
def f_X6_dry (x1 : Int32) (m : Mm) : Option (Int32 × Mm) :=
  (if (f_X6_isNone m) = 0 then (if (f_X6_isFlag x1) = 0 then (some ((-1000001 : Int32), m))
  else (bd1 (f_X1_findDry 13 m) fun m3 => (some ((f_X1_answer x1 m3), m3))))
  else (some ((-1000002 : Int32), m)))
def f_X1_fillsWith (w1 : Nat) (x2 : Int32) (x3 : Int32) (m : Mm) : Option (Int32 × Mm) :=
  (bd1 (f_X5_become 241 w1 m) fun m1 => (bd1 (f_X5_engage 241 x2 m1) fun m2 => (bd1 (f_X5_run 241 x3 m2) fun m3 => (nm_ ((f_X5_isFull 241 m3) : Int32) fun v4 => (gd_ ((v4 = 0 ∨ v4 = 1)) (some (v4, m3)))))))
def f_J6_bitCount_0f7a4 (x0 : Int32) : Int32 :=
  (nm_ ((x0 - ((x0.toUInt32 >>> ((1 : Int32).toUInt32 &&& Int32.toUInt32 31)).toInt32 &&& (1431655765 : Int32))) : Int32) fun v1 => (nm_ (((v1 &&& (858993459 : Int32)) + ((v1.toUInt32 >>> ((2 : Int32).toUInt32 &&& Int32.toUInt32 31)).toInt32 &&& (858993459 : Int32))) : Int32) fun v2 => (nm_ (((v2 + (v2.toUInt32 >>> ((4 : Int32).toUInt32 &&& Int32.toUInt32 31)).toInt32) &&& (252645135 : Int32)) : Int32) fun v3 => (nm_ ((v3 + (v3.toUInt32 >>> ((8 : Int32).toUInt32 &&& Int32.toUInt32 31)).toInt32) : Int32) fun v4 => (nm_ ((v4 + (v4.toUInt32 >>> ((16 : Int32).toUInt32 &&& Int32.toUInt32 31)).toInt32) : Int32) fun v5 => (v5 &&& (63 : Int32)))))))
def f_X1_isCheaper (x1 : Int32) (x2 : Int32) (m : Mm) : Int32 :=
  (if (m 240 2) = (-1000000 : Int32) then (if (m 240 2) = (-1000000 : Int32) then (1 : Int32)
  else (if (m 240 3) ≤ x2 then (0 : Int32)
  else (1 : Int32)))
  else (if x2 = (m 240 3) then (if (f_J6_bitCount_0f7a4 (m 240 2)) ≤ (f_J6_bitCount_0f7a4 x1) then (0 : Int32)
  else (1 : Int32))
  else (if (m 240 2) = (-1000000 : Int32) then (1 : Int32)
  else (if (m 240 3) ≤ x2 then (0 : Int32)
  else (1 : Int32)))))
def lb_X1_findCheapest_22 (rec : Int32 → Int32 → Int32 → Mm → Option Mm) (w1 : Nat) (y2 : Int32) (y3 : Int32) (y4 : Int32) (m : Mm) : Option Mm :=
  (if y3 ≤ y4 then (some m)
  else (bd2 (f_X1_fillsWith w1 y4 y2 m) fun r6 m5 => (bd1 ((if r6 = 0 then (some m5)
  else (if (f_X1_isCheaper y4 (m5 241 5) m5) = 0 then (some m5)
  else (nm_ ((st_ m5 240 2 y4) : Mm) fun m9 => (nm_ ((m9 241 5) : Int32) fun v10 => (nm_ ((st_ m9 240 3 v10) : Mm) fun m11 => (some m11)))))) : Option Mm) fun m12 => (nm_ ((y4 + (1 : Int32)) : Int32) fun v13 => (rec y2 y3 v13 m12)))))
def lp_X1_findCheapest_22 (w1 : Nat) : Nat → Int32 → Int32 → Int32 → Mm → Option Mm
  | 0, _, _, _, _ => none
  | n + 1, y2, y3, y4, m => lb_X1_findCheapest_22 (lp_X1_findCheapest_22 w1 n) w1 y2 y3 y4 m
def f_X1_findCheapest (w1 : Nat) (x2 : Int32) (m : Mm) : Option Mm :=
  (nm_ ((st_ m 240 2 (-1000000 : Int32)) : Mm) fun m1 => (nm_ ((st_ m1 240 3 (-1000000 : Int32)) : Mm) fun m2 => (nm_ (((1 : Int32) <<< ((m2 w1 0) &&& 31)) : Int32) fun v3 => (bd1 (lp_X1_findCheapest_22 w1 FU x2 v3 (0 : Int32) m2) fun m14 => (some m14)))))
def f_X6_hiring (x1 : Int32) (x2 : Int32) (m : Mm) : Option (Int32 × Mm) :=
  (if (f_X6_isNone m) = 0 then (if (f_X6_isWithin x1 (1 : Int32) (30 : Int32)) = 0 then (some ((-1000001 : Int32), m))
  else (if (f_X6_isFlag x2) = 0 then (some ((-1000001 : Int32), m))
  else (bd1 (f_X1_findCheapest 13 x1 m) fun m4 => (some ((f_X1_answer x2 m4), m4)))))
  else (some ((-1000002 : Int32), m)))
def f_X1_keepIfMore (x1 : Int32) (m : Mm) : Option Mm :=
  (if (m 241 4) ≤ (m 240 3) then (some m)
  else (nm_ ((st_ m 240 2 x1) : Mm) fun m2 => (nm_ ((m2 241 4) : Int32) fun v3 => (nm_ ((st_ m2 240 3 v3) : Mm) fun m4 => (some m4)))))
def lb_X1_tryOrder_13 (rec : Int32 → Int32 → Int32 → Mm → Option (Int32 × Mm)) (w1 : Nat) (y2 : Int32) (y3 : Int32) (y4 : Int32) (m : Mm) : Option (Int32 × Mm) :=
  (if (m w1 0) ≤ y4 then (some (y3, m))
  else (gd_ (¬ (y4 < 0 ∨ 7 ≤ ix y4)) (bd1 (f_X5_sit 241 (m 250 (ix y4)) y4 m) fun m4 => (gd_ (¬ (y4 < 0 ∨ 7 ≤ ix y4)) (nm_ (((y3 * (10 : Int32)) + (m4 250 (ix y4))) : Int32) fun v6 => (nm_ ((y4 + (1 : Int32)) : Int32) fun v7 => (rec y2 v6 v7 m4)))))))
def lp_X1_tryOrder_13 (w1 : Nat) : Nat → Int32 → Int32 → Int32 → Mm → Option (Int32 × Mm)
  | 0, _, _, _, _ => none
  | n + 1, y2, y3, y4, m => lb_X1_tryOrder_13 (lp_X1_tryOrder_13 w1 n) w1 y2 y3 y4 m
def f_X1_tryOrder (w1 : Nat) (x2 : Int32) (m : Mm) : Option Mm :=
  (bd1 (f_X5_become 241 w1 m) fun m1 => (bd2 (lp_X1_tryOrder_13 w1 FU x2 (0 : Int32) (0 : Int32) m1) fun z8 m9 => (bd1 (f_X5_run 241 x2 m9) fun m11 => (bd1 (f_X1_keepIfMore z8 m11) fun m12 => (some m12)))))
def f_X1_exchange (x1 : Int32) (x2 : Int32) (m : Mm) : Option Mm :=
  (gd_ (¬ (x1 < 0 ∨ 7 ≤ ix x1)) (nm_ ((m 250 (ix x1)) : Int32) fun v2 => (gd_ (¬ (x2 < 0 ∨ 7 ≤ ix x2)) (nm_ ((m 250 (ix x2)) : Int32) fun v4 => (gd_ (¬ (x1 < 0 ∨ 7 ≤ ix x1)) (nm_ ((st_ m 250 (ix x1) v4) : Mm) fun m5 => (gd_ (¬ (x2 < 0 ∨ 7 ≤ ix x2)) (nm_ ((st_ m5 250 (ix x2) v2) : Mm) fun m6 => (some m6)))))))))
def lb_X1_nextOrder_4 (rec : Int32 → Int32 → Mm → Option Int32)  (y1 : Int32) (y2 : Int32) (m : Mm) : Option Int32 :=
  (if y2 < 0 then (some y2)
  else (gd_ (¬ (y2 < 0 ∨ 7 ≤ ix y2)) (gd_ (¬ ((y2 + (1 : Int32)) < 0 ∨ 7 ≤ ix (y2 + (1 : Int32)))) (if (m 250 (ix y2)) ≤ (m 250 (ix (y2 + (1 : Int32)))) then (some y2)
  else (nm_ ((y2 + (-1 : Int32)) : Int32) fun v6 => (rec y1 v6 m))))))
def lp_X1_nextOrder_4  : Nat → Int32 → Int32 → Mm → Option Int32
  | 0, _, _, _ => none
  | n + 1, y1, y2, m => lb_X1_nextOrder_4 (lp_X1_nextOrder_4 n) y1 y2 m
def lb_X1_nextOrder_40 (rec : Int32 → Int32 → Int32 → Mm → Option Int32)  (y1 : Int32) (y2 : Int32) (y3 : Int32) (m : Mm) : Option Int32 :=
  (if y3 ≤ y2 then (some y3)
  else (gd_ (¬ (y3 < 0 ∨ 7 ≤ ix y3)) (gd_ (¬ (y2 < 0 ∨ 7 ≤ ix y2)) (if (m 250 (ix y2)) ≤ (m 250 (ix y3)) then (some y3)
  else (nm_ ((y3 + (-1 : Int32)) : Int32) fun v15 => (rec y1 y2 v15 m))))))
def lp_X1_nextOrder_40  : Nat → Int32 → Int32 → Int32 → Mm → Option Int32
  | 0, _, _, _, _ => none
  | n + 1, y1, y2, y3, m => lb_X1_nextOrder_40 (lp_X1_nextOrder_40 n) y1 y2 y3 m
def lb_X1_nextOrder_82 (rec : Int32 → Int32 → Mm → Option Mm)  (y4 : Int32) (y5 : Int32) (m : Mm) : Option Mm :=
  (if y4 ≤ y5 then (some m)
  else (bd1 (f_X1_exchange y5 y4 m) fun m22 => (nm_ ((y4 + (-1 : Int32)) : Int32) fun v23 => (nm_ ((y5 + (1 : Int32)) : Int32) fun v24 => (rec v23 v24 m22)))))
def lp_X1_nextOrder_82  : Nat → Int32 → Int32 → Mm → Option Mm
  | 0, _, _, _ => none
  | n + 1, y4, y5, m => lb_X1_nextOrder_82 (lp_X1_nextOrder_82 n) y4 y5 m
def f_X1_nextOrder (x1 : Int32) (m : Mm) : Option Mm :=
  (nm_ ((x1 - (2 : Int32)) : Int32) fun v1 => (bd1 (lp_X1_nextOrder_4 FU x1 v1 m) fun z7 => (if 0 ≤ z7 then (nm_ ((x1 - (1 : Int32)) : Int32) fun v10 => (bd1 (lp_X1_nextOrder_40 FU x1 z7 v10 m) fun z16 => (bd1 (f_X1_exchange z7 z16 m) fun m18 => (nm_ ((x1 - (1 : Int32)) : Int32) fun v19 => (nm_ ((z7 + (1 : Int32)) : Int32) fun v20 => (bd1 (lp_X1_nextOrder_82 FU v19 v20 m18) fun m25 => (some m25)))))))
  else (some m))))
def lb_X1_findOrder_17 (rec : Int32 → Int32 → Int32 → Mm → Option (Int32 × Mm)) (w1 : Nat) (y2 : Int32) (y3 : Int32) (y4 : Int32) (m : Mm) : Option (Int32 × Mm) :=
  (if (m w1 0) ≤ y4 then (some (y3, m))
  else (gd_ (¬ (y4 < 0 ∨ 7 ≤ ix y4)) (nm_ ((st_ m 250 (ix y4) y4) : Mm) fun m4 => (nm_ ((y3 * (y4 + (1 : Int32))) : Int32) fun v5 => (nm_ ((y4 + (1 : Int32)) : Int32) fun v6 => (rec y2 v5 v6 m4))))))
def lp_X1_findOrder_17 (w1 : Nat) : Nat → Int32 → Int32 → Int32 → Mm → Option (Int32 × Mm)
  | 0, _, _, _, _ => none
  | n + 1, y2, y3, y4, m => lb_X1_findOrder_17 (lp_X1_findOrder_17 w1 n) w1 y2 y3 y4 m
def lb_X1_findOrder_51 (rec : Int32 → Int32 → Int32 → Mm → Option Mm) (w1 : Nat) (y2 : Int32) (y3 : Int32) (y4 : Int32) (m : Mm) : Option Mm :=
  (if y3 ≤ y4 then (some m)
  else (bd1 ((if (m w1 0) ≤ 0 then (some m)
  else (gd_ (¬ (((m w1 0) - (1 : Int32)) < 0 ∨ 7 ≤ ix ((m w1 0) - (1 : Int32)))) (if (m 250 (ix ((m w1 0) - (1 : Int32)))) < (m 250 (ix (0 : Int32))) then (some m)
  else (bd1 (f_X1_tryOrder w1 y2 m) fun m15 => (some m15))))) : Option Mm) fun m16 => (bd1 (f_X1_nextOrder (m16 w1 0) m16) fun m17 => (nm_ ((y4 + (1 : Int32)) : Int32) fun v18 => (rec y2 y3 v18 m17)))))
def lp_X1_findOrder_51 (w1 : Nat) : Nat → Int32 → Int32 → Int32 → Mm → Option Mm
  | 0, _, _, _, _ => none
  | n + 1, y2, y3, y4, m => lb_X1_findOrder_51 (lp_X1_findOrder_51 w1 n) w1 y2 y3 y4 m
def f_X1_findOrder (w1 : Nat) (x2 : Int32) (m : Mm) : Option Mm :=
  (nm_ ((st_ m 240 2 (-1000000 : Int32)) : Mm) fun m1 => (nm_ ((st_ m1 240 3 (-1000000 : Int32)) : Mm) fun m2 => (bd2 (lp_X1_findOrder_17 w1 FU x2 (1 : Int32) (0 : Int32) m2) fun z8 m9 => (bd1 (lp_X1_findOrder_51 w1 FU x2 z8 (0 : Int32) m9) fun m19 => (some m19)))))
def f_X6_order (x1 : Int32) (x2 : Int32) (m : Mm) : Option (Int32 × Mm) :=
  (if (f_X6_isNone m) = 0 then (if (f_X6_isWithin x1 (1 : Int32) (10 : Int32)) = 0 then (some ((-1000001 : Int32), m))
  else (if (f_X6_isFlag x2) = 0 then (some ((-1000001 : Int32), m))
  else (bd1 (f_X1_findOrder 13 x1 m) fun m4 => (some ((f_X1_answer x2 m4), m4)))))
  else (some ((-1000002 : Int32), m)))
def lb_X1_findChange_27 (rec : Int32 → Int32 → Int32 → Mm → Option Mm) (w1 : Nat) (y2 : Int32) (y3 : Int32) (y4 : Int32) (m : Mm) : Option Mm :=
  (if (m w1 0) ≤ y4 then (some m)
  else (bd1 (f_X5_become 241 w1 m) fun m6 => (bd1 (f_X5_trade 241 y3 y4 m6) fun m7 => (bd1 (f_X5_run 241 y2 m7) fun m8 => (bd1 (f_X1_keepIfMore (((10 : Int32) * y3) + y4) m8) fun m9 => (nm_ ((y4 + (1 : Int32)) : Int32) fun v10 => (rec y2 y3 v10 m9)))))))
def lp_X1_findChange_27 (w1 : Nat) : Nat → Int32 → Int32 → Int32 → Mm → Option Mm
  | 0, _, _, _, _ => none
  | n + 1, y2, y3, y4, m => lb_X1_findChange_27 (lp_X1_findChange_27 w1 n) w1 y2 y3 y4 m
def lb_X1_findChange_14 (rec : Int32 → Int32 → Mm → Option Mm) (w1 : Nat) (y2 : Int32) (y3 : Int32) (m : Mm) : Option Mm :=
  (if (m w1 0) ≤ y3 then (some m)
  else (nm_ ((y3 + (1 : Int32)) : Int32) fun v4 => (bd1 (lp_X1_findChange_27 w1 FU y2 y3 v4 m) fun m11 => (nm_ ((y3 + (1 : Int32)) : Int32) fun v13 => (rec y2 v13 m11)))))
def lp_X1_findChange_14 (w1 : Nat) : Nat → Int32 → Int32 → Mm → Option Mm
  | 0, _, _, _ => none
  | n + 1, y2, y3, m => lb_X1_findChange_14 (lp_X1_findChange_14 w1 n) w1 y2 y3 m
def f_X1_findChange (w1 : Nat) (x2 : Int32) (m : Mm) : Option Mm :=
  (nm_ ((st_ m 240 2 (-1000000 : Int32)) : Mm) fun m1 => (nm_ ((st_ m1 240 3 (-1000000 : Int32)) : Mm) fun m2 => (bd1 (lp_X1_findChange_14 w1 FU x2 (0 : Int32) m2) fun m14 => (some m14))))
def f_X6_change (x1 : Int32) (x2 : Int32) (m : Mm) : Option (Int32 × Mm) :=
  (if (f_X6_isNone m) = 0 then (if (f_X6_isWithin x1 (1 : Int32) (30 : Int32)) = 0 then (some ((-1000001 : Int32), m))
  else (if (f_X6_isFlag x2) = 0 then (some ((-1000001 : Int32), m))
  else (bd1 (f_X1_findChange 13 x1 m) fun m4 => (some ((f_X1_answer x2 m4), m4)))))
  else (some ((-1000002 : Int32), m)))
def f_X2_listen (x1 : Int32) (q2 nq2 : Nat) (x3 : Int32) (x4 : Int32) (m : Mm) : Option Mm :=
  (gd_ ((¬ x3 < 0 ∧ ¬ (0 : Int32) < 0 ∧ ¬ x4 < 0 ∧ ix x3 + ix x4 ≤ nq2 ∧ ix (0 : Int32) + ix x4 ≤ 12)) (nm_ ((cp_ m q2 (ix x3) 261 (ix (0 : Int32)) (ix x4)) : Mm) fun m1 => (nm_ ((st_ m1 251 2 x4) : Mm) fun m2 => (nm_ ((st_ m2 251 3 x1) : Mm) fun m3 => (some m3)))))
def lb_X2_isAsTold_2 (rec : Int32 → Mm → Option ((Int32 × Mm) ⊕ Mm))  (y1 : Int32) (m : Mm) : Option ((Int32 × Mm) ⊕ Mm) :=
  (if (m 251 2) ≤ y1 then (some (.inr m))
  else (bd1 (f_X5_pass 252 m) fun m2 => (gd_ (¬ ((m2 251 3) < 0 ∨ 7 ≤ ix (m2 251 3))) (gd_ (¬ (y1 < 0 ∨ 12 ≤ ix y1)) (if (m2 257 (ix (m2 251 3))) = (m2 261 (ix y1)) then (nm_ ((y1 + (1 : Int32)) : Int32) fun v6 => (rec v6 m2))
  else (some (.inl ((0 : Int32), m2))))))))
def lp_X2_isAsTold_2  : Nat → Int32 → Mm → Option ((Int32 × Mm) ⊕ Mm)
  | 0, _, _ => none
  | n + 1, y1, m => lb_X2_isAsTold_2 (lp_X2_isAsTold_2 n) y1 m
def f_X2_isAsTold  (m : Mm) : Option (Int32 × Mm) :=
  (bdS1 (lp_X2_isAsTold_2 FU (0 : Int32) m) fun m7 => (some ((1 : Int32), m7)))
def lb_X2_sorts_4 (rec : Int32 → Int32 → Mm → Option (Int32 × Mm)) (w1 : Nat) (y2 : Int32) (y3 : Int32) (m : Mm) : Option (Int32 × Mm) :=
  (if (5 : Int32) < y3 then (some (y2, m))
  else (bd1 (f_X5_become 252 w1 m) fun m2 => (gd_ (¬ ((m2 251 3) < 0 ∨ 7 ≤ ix (m2 251 3))) (nm_ ((st_ m2 253 (ix (m2 251 3)) y3) : Mm) fun m3 => (bd2 (f_X2_isAsTold m3) fun r5 m4 => (nm_ ((if r5 = 0 then (0 : Int32)
  else ((1 : Int32) <<< (y3 &&& 31))) : Int32) fun j7 => (nm_ ((y2 ||| j7) : Int32) fun v8 => (nm_ ((y3 + (1 : Int32)) : Int32) fun v9 => (rec v8 v9 m4)))))))))
def lp_X2_sorts_4 (w1 : Nat) : Nat → Int32 → Int32 → Mm → Option (Int32 × Mm)
  | 0, _, _, _ => none
  | n + 1, y2, y3, m => lb_X2_sorts_4 (lp_X2_sorts_4 w1 n) w1 y2 y3 m
def f_X2_sorts (w1 : Nat) (m : Mm) : Option (Int32 × Mm) :=
  (bd2 (lp_X2_sorts_4 w1 FU (0 : Int32) (1 : Int32) m) fun z11 m12 => (some (z11, m12)))
def lb_X2_starts_4 (rec : Int32 → Int32 → Mm → Option (Int32 × Mm)) (w1 : Nat) (y2 : Int32) (y3 : Int32) (m : Mm) : Option (Int32 × Mm) :=
  (if (10 : Int32) ≤ y3 then (some (y2, m))
  else (bd1 (f_X5_become 252 w1 m) fun m2 => (gd_ (¬ ((m2 251 3) < 0 ∨ 7 ≤ ix (m2 251 3))) (nm_ ((st_ m2 254 (ix (m2 251 3)) y3) : Mm) fun m3 => (bd2 (f_X2_isAsTold m3) fun r5 m4 => (nm_ ((if r5 = 0 then (0 : Int32)
  else ((1 : Int32) <<< (y3 &&& 31))) : Int32) fun j7 => (nm_ ((y2 ||| j7) : Int32) fun v8 => (nm_ ((y3 + (1 : Int32)) : Int32) fun v9 => (rec v8 v9 m4)))))))))
def lp_X2_starts_4 (w1 : Nat) : Nat → Int32 → Int32 → Mm → Option (Int32 × Mm)
  | 0, _, _, _ => none
  | n + 1, y2, y3, m => lb_X2_starts_4 (lp_X2_starts_4 w1 n) w1 y2 y3 m
def f_X2_starts (w1 : Nat) (m : Mm) : Option (Int32 × Mm) :=
  (bd2 (lp_X2_starts_4 w1 FU (0 : Int32) (0 : Int32) m) fun z11 m12 => (some (z11, m12)))
def lb_X2_hymnsHeard_4 (rec : Int32 → Int32 → Mm → Option (Int32 × Mm)) (w1 : Nat) (y2 : Int32) (y3 : Int32) (m : Mm) : Option (Int32 × Mm) :=
  (if (16 : Int32) ≤ y3 then (some (y2, m))
  else (bd1 (f_X5_become 252 w1 m) fun m2 => (nm_ ((st_ m2 252 2 y3) : Mm) fun m3 => (bd2 (f_X2_isAsTold m3) fun r5 m4 => (nm_ ((if r5 = 0 then (0 : Int32)
  else ((1 : Int32) <<< (y3 &&& 31))) : Int32) fun j7 => (nm_ ((y2 ||| j7) : Int32) fun v8 => (nm_ ((y3 + (1 : Int32)) : Int32) fun v9 => (rec v8 v9 m4))))))))
def lp_X2_hymnsHeard_4 (w1 : Nat) : Nat → Int32 → Int32 → Mm → Option (Int32 × Mm)
  | 0, _, _, _ => none
  | n + 1, y2, y3, m => lb_X2_hymnsHeard_4 (lp_X2_hymnsHeard_4 w1 n) w1 y2 y3 m
def f_X2_hymnsHeard (w1 : Nat) (m : Mm) : Option (Int32 × Mm) :=
  (bd2 (lp_X2_hymnsHeard_4 w1 FU (0 : Int32) (0 : Int32) m) fun z10 m11 => (some (z10, m11)))
def f_X2_isWell (w1 : Nat) (x2 : Int32) (m : Mm) : Option (Int32 × Mm) :=
  (bd1 (f_X5_become 252 w1 m) fun m1 => (gd_ (¬ ((m1 251 3) < 0 ∨ 7 ≤ ix (m1 251 3))) (nm_ ((st_ m1 256 (ix (m1 251 3)) x2) : Mm) fun m2 => (bd2 (f_X2_isAsTold m2) fun r4 m3 => (gd_ ((r4 = 0 ∨ r4 = 1)) (some (r4, m3)))))))
def lb_X2_wells_4 (rec : Int32 → Int32 → Mm → Option (Int32 × Mm)) (w1 : Nat) (y2 : Int32) (y3 : Int32) (m : Mm) : Option (Int32 × Mm) :=
  (if (100 : Int32) ≤ y3 then (some (y2, m))
  else (bd2 (f_X2_isWell w1 y3 m) fun r3 m2 => (nm_ ((if r3 = 0 then (0 : Int32)
  else (1 : Int32)) : Int32) fun j5 => (nm_ ((y2 + j5) : Int32) fun v6 => (nm_ ((y3 + (1 : Int32)) : Int32) fun v7 => (rec v6 v7 m2))))))
def lp_X2_wells_4 (w1 : Nat) : Nat → Int32 → Int32 → Mm → Option (Int32 × Mm)
  | 0, _, _, _ => none
  | n + 1, y2, y3, m => lb_X2_wells_4 (lp_X2_wells_4 w1 n) w1 y2 y3 m
def f_X2_wells (w1 : Nat) (m : Mm) : Option (Int32 × Mm) :=
  (bd2 (lp_X2_wells_4 w1 FU (0 : Int32) (0 : Int32) m) fun z8 m9 => (some (z8, m9)))
def lb_X2_leastWell_2 (rec : Int32 → Mm → Option ((Int32 × Mm) ⊕ Mm)) (w1 : Nat) (y2 : Int32) (m : Mm) : Option ((Int32 × Mm) ⊕ Mm) :=
  (if (100 : Int32) ≤ y2 then (some (.inr m))
  else (bd2 (f_X2_isWell w1 y2 m) fun r3 m2 => (if r3 = 0 then (nm_ ((y2 + (1 : Int32)) : Int32) fun v5 => (rec v5 m2))
  else (some (.inl (y2, m2))))))
def lp_X2_leastWell_2 (w1 : Nat) : Nat → Int32 → Mm → Option ((Int32 × Mm) ⊕ Mm)
  | 0, _, _ => none
  | n + 1, y2, m => lb_X2_leastWell_2 (lp_X2_leastWell_2 w1 n) w1 y2 m
def f_X2_leastWell (w1 : Nat) (m : Mm) : Option (Int32 × Mm) :=
  (bdS1 (lp_X2_leastWell_2 w1 FU (0 : Int32) m) fun m6 => (some ((-1000000 : Int32), m6)))
def f_X6_fits (x1 : Int32) (x2 : Int32) (x3 : Int32) (x4 : Int32) (x5 : Int32) (m : Mm) : Option (Int32 × Mm) :=
  (if (f_X5_has 13 x1 m) = 0 then (some ((-1000001 : Int32), m))
  else (if (f_X6_isRow x2) = 0 then (some ((-1000001 : Int32), m))
  else (if (f_X6_isWithin x4 (1 : Int32) (12 : Int32)) = 0 then (some ((-1000001 : Int32), m))
  else (if (f_X6_isWithin x5 (0 : Int32) (4 : Int32)) = 0 then (some ((-1000001 : Int32), m))
  else (gd_ (¬ (x2 < 0 ∨ 8 ≤ ix x2)) (nm_ ((rf 1 (ix x2)) : Nat) fun w6 => (if (m w6 0) = 0 then (bd2 (f_X6_find (1 : Int32) m) fun r29 m28 => (some (r29, m28)))
  else (gd_ (¬ (x2 < 0 ∨ 8 ≤ ix x2)) (nm_ ((rf 1 (ix x2)) : Nat) fun w9 => (if (f_X4_spans w9 x3 x4 m) = 0 then (bd2 (f_X6_find (2 : Int32) m) fun r27 m26 => (some (r27, m26)))
  else (gd_ (¬ (x2 < 0 ∨ 8 ≤ ix x2)) (nm_ ((rf 1 (ix x2)) : Nat) fun w12 => (bd1 (f_X2_listen x1 (w12 + 1) 40 x3 x4 m) fun m13 => (nm_ ((st_ m13 0 9 (0 : Int32)) : Mm) fun m14 => (if x5 = (0 : Int32) then (bd2 (f_X2_sorts 13 m14) fun r16 m15 => (some (r16, m15)))
  else (if x5 = (1 : Int32) then (bd2 (f_X2_starts 13 m14) fun r18 m17 => (some (r18, m17)))
  else (if x5 = (2 : Int32) then (bd2 (f_X2_hymnsHeard 13 m14) fun r20 m19 => (some (r20, m19)))
  else (if x5 = (3 : Int32) then (bd2 (f_X2_wells 13 m14) fun r22 m21 => (some (r22, m21)))
  else (bd2 (f_X2_leastWell 13 m14) fun r24 m23 => (some (r24, m23)))))))))))))))))))))
def lb_X1_waysToStay_5 (rec : Int32 → Int32 → Int32 → Int32 → Mm → Option Int32) (w1 : Nat) (y1 : Int32) (y2 : Int32) (y3 : Int32) (y4 : Int32) (m : Mm) : Option Int32 :=
  (if (m w1 0) ≤ y4 then (some y3)
  else (bd1 ((if (f_X5_isHired w1 y4 m) = 0 then (some y3)
  else (nm_ ((if ((y1 >>> (y4 &&& 31)) &&& (1 : Int32)) = (1 : Int32) then ((10 : Int32) - y2)
  else y2) : Int32) fun j4 => (nm_ ((y3 * j4) : Int32) fun v5 => (some v5)))) : Option Int32) fun j6 => (nm_ ((y4 + (1 : Int32)) : Int32) fun v7 => (rec y1 y2 j6 v7 m))))
def lp_X1_waysToStay_5 (w1 : Nat) : Nat → Int32 → Int32 → Int32 → Int32 → Mm → Option Int32
  | 0, _, _, _, _, _ => none
  | n + 1, y1, y2, y3, y4, m => lb_X1_waysToStay_5 (lp_X1_waysToStay_5 w1 n) w1 y1 y2 y3 y4 m
def f_X1_waysToStay (w1 : Nat) (x1 : Int32) (x2 : Int32) (m : Mm) : Option Int32 :=
  (bd1 (lp_X1_waysToStay_5 w1 FU x1 x2 (1 : Int32) (0 : Int32) m) fun z8 => (some z8))
def lb_X1_commonDivisor_7 (rec : Int32 → Int32 → Int32 → Option Int32)  (y2 : Int32) (y3 : Int32) (y4 : Int32) : Option Int32 :=
  (if (64 : Int32) ≤ y4 then (some y2)
  else (if y3 = 0 then (some y2)
  else (gd_ (¬ y3 = 0) (nm_ ((y2 - y2 / y3 * y3) : Int32) fun v4 => (nm_ ((y4 + (1 : Int32)) : Int32) fun v5 => (rec y3 v4 v5))))))
def lp_X1_commonDivisor_7  : Nat → Int32 → Int32 → Int32 → Option Int32
  | 0, _, _, _ => none
  | n + 1, y2, y3, y4 => lb_X1_commonDivisor_7 (lp_X1_commonDivisor_7 n) y2 y3 y4
def f_X1_commonDivisor (x0 : Int32) (x1 : Int32) : Option Int32 :=
  (bd1 (lp_X1_commonDivisor_7 FU x0 x1 (0 : Int32)) fun z6 => (some z6))
def lb_X1_weighAway_9 (rec : Int32 → Int32 → Int32 → Int32 → Int32 → Mm → Option Int32) (w1 : Nat) (y2 : Int32) (y3 : Int32) (y4 : Int32) (y5 : Int32) (y6 : Int32) (m : Mm) : Option Int32 :=
  (if (m w1 0) ≤ y6 then (some y5)
  else (nm_ ((if (f_X5_isHired w1 y6 m) = 0 then (1 : Int32)
  else (10 : Int32)) : Int32) fun j3 => (nm_ ((y5 * j3) : Int32) fun v4 => (nm_ ((y6 + (1 : Int32)) : Int32) fun v5 => (rec y2 y3 y4 v4 v5 m)))))
def lp_X1_weighAway_9 (w1 : Nat) : Nat → Int32 → Int32 → Int32 → Int32 → Int32 → Mm → Option Int32
  | 0, _, _, _, _, _, _ => none
  | n + 1, y2, y3, y4, y5, y6, m => lb_X1_weighAway_9 (lp_X1_weighAway_9 w1 n) w1 y2 y3 y4 y5 y6 m
def lb_X1_weighAway_55 (rec : Int32 → Int32 → Int32 → Int32 → Int32 → Int32 → Mm → Option (Int32 × Mm)) (w1 : Nat) (y2 : Int32) (y3 : Int32) (y4 : Int32) (y5 : Int32) (y6 : Int32) (y7 : Int32) (m : Mm) : Option (Int32 × Mm) :=
  (if y6 ≤ y7 then (some (y4, m))
  else (bd2 ((if (y7 &&& ((m w1 6) ^^^ (-1 : Int32))) = 0 then (bd2 (f_X1_fillsWith w1 y7 y2 m) fun r12 m11 => (if r12 = 0 then (some (y4, m11))
  else (bd1 (f_X1_waysToStay w1 y7 y3 m11) fun r14 => (nm_ ((y4 + r14) : Int32) fun v15 => (some (v15, m11))))))
  else (some (y4, m))) : Option (Int32 × Mm)) fun j16 m17 => (nm_ ((y7 + (1 : Int32)) : Int32) fun v18 => (rec y2 y3 j16 y5 y6 v18 m17))))
def lp_X1_weighAway_55 (w1 : Nat) : Nat → Int32 → Int32 → Int32 → Int32 → Int32 → Int32 → Mm → Option (Int32 × Mm)
  | 0, _, _, _, _, _, _, _ => none
  | n + 1, y2, y3, y4, y5, y6, y7, m => lb_X1_weighAway_55 (lp_X1_weighAway_55 w1 n) w1 y2 y3 y4 y5 y6 y7 m
def f_X1_weighAway (w1 : Nat) (x2 : Int32) (x3 : Int32) (m : Mm) : Option Mm :=
  (bd1 (lp_X1_weighAway_9 w1 FU x2 x3 (0 : Int32) (1 : Int32) (0 : Int32) m) fun z6 => (nm_ (((1 : Int32) <<< ((m w1 0) &&& 31)) : Int32) fun v8 => (bd2 (lp_X1_weighAway_55 w1 FU x2 x3 (0 : Int32) z6 v8 (0 : Int32) m) fun z19 m20 => (bd1 (f_X1_commonDivisor z19 z6) fun r22 => (bd1 ((if r22 = 0 then (some z19)
  else (gd_ (¬ r22 = 0) (some (z19 / r22)))) : Option Int32) fun j25 => (nm_ ((st_ m20 240 2 j25) : Mm) fun m26 => (bd1 ((if r22 = 0 then (some z6)
  else (gd_ (¬ r22 = 0) (some (z6 / r22)))) : Option Int32) fun j29 => (nm_ ((st_ m26 240 3 j29) : Mm) fun m30 => (some m30)))))))))
def f_X6_away (x1 : Int32) (x2 : Int32) (x3 : Int32) (m : Mm) : Option (Int32 × Mm) :=
  (if (f_X6_isNone m) = 0 then (if (f_X6_isWithin x1 (0 : Int32) (30 : Int32)) = 0 then (some ((-1000001 : Int32), m))
  else (if (f_X6_isWithin x2 (0 : Int32) (10 : Int32)) = 0 then (some ((-1000001 : Int32), m))
  else (if (f_X6_isFlag x3) = 0 then (some ((-1000001 : Int32), m))
  else (bd1 (f_X1_weighAway 13 x1 x2 m) fun m5 => (some ((f_X1_answer x3 m5), m5))))))
  else (some ((-1000002 : Int32), m)))
def lb_X1_season_15 (rec : Int32 → Int64 → Int32 → Mm → Option Mm)  (y2 : Int32) (y4 : Int64) (y6 : Int32) (m : Mm) : Option Mm :=
  (if y2 ≤ y6 then (some m)
  else (if (m 241 0) ≤ 0 then (some m)
  else (nm_ (((y4 * (16807 : Int64)) - (y4 * (16807 : Int64)) / (2147483647 : Int64) * (2147483647 : Int64)) : Int64) fun v5 => (gd_ (¬ ((m 241 0)).toInt64 = 0) (bd1 (f_X5_engage 241 ((m 241 6) ^^^ ((1 : Int32) <<< (((v5 - v5 / ((m 241 0)).toInt64 * ((m 241 0)).toInt64)).toInt32 &&& 31))) m) fun m7 => (nm_ (((v5 - v5 / (7 : Int64) * (7 : Int64))).toInt32 : Int32) fun v8 => (bd1 ((if (f_X5_has 241 (v8 + (1 : Int32)) m7) = 0 then (some m7)
  else (gd_ (¬ (v8 < 0 ∨ 7 ≤ ix v8)) (gd_ (¬ ((v8 + (1 : Int32)) < 0 ∨ 7 ≤ ix (v8 + (1 : Int32)))) (bd1 (f_X5_trade 241 (m7 248 (ix v8)) (m7 248 (ix (v8 + (1 : Int32)))) m7) fun m12 => (some m12))))) : Option Mm) fun m13 => (bd1 (f_X5_pass 241 m13) fun m14 => (nm_ ((y6 + (1 : Int32)) : Int32) fun v15 => (rec y2 v5 v15 m14))))))))))
def lp_X1_season_15  : Nat → Int32 → Int64 → Int32 → Mm → Option Mm
  | 0, _, _, _, _ => none
  | n + 1, y2, y4, y6, m => lb_X1_season_15 (lp_X1_season_15 n) y2 y4 y6 m
def f_X1_season (w1 : Nat) (x2 : Int32) (x3 : Int32) (m : Mm) : Option Mm :=
  (bd1 (f_X5_become 241 w1 m) fun m1 => (nm_ ((x3).toInt64 : Int64) fun v2 => (bd1 (lp_X1_season_15 FU x2 v2 (0 : Int32) m1) fun m16 => (some m16))))
def f_X6_drawn (x1 : Int32) (x2 : Int32) (x3 : Int32) (m : Mm) : Option (Int32 × Mm) :=
  (if (f_X6_isNone m) = 0 then (if (f_X6_isWithin x1 (0 : Int32) (60 : Int32)) = 0 then (some ((-1000001 : Int32), m))
  else (if (f_X6_isWithin x2 (1 : Int32) (999999 : Int32)) = 0 then (some ((-1000001 : Int32), m))
  else (if (f_X6_isFlag x3) = 0 then (some ((-1000001 : Int32), m))
  else (bd1 (f_X1_season 13 x1 x2 m) fun m5 => (if x3 = 0 then (some ((m5 241 4), m5))
  else (some ((m5 241 5), m5)))))))
  else (some ((-1000002 : Int32), m)))
def f_X6_image (x1 : Int32) (m : Mm) : Option (Int32 × Mm) :=
  (if x1 < 0 then (some ((-1000001 : Int32), m))
  else (if x1 < (2 : Int32) then (if (f_X6_isNone m) = 0 then (gd_ (¬ (x1 < 0 ∨ 2 ≤ ix x1)) (nm_ ((rf 262 (ix x1)) : Nat) fun w5 => (bd1 (f_X5_become w5 13 m) fun m6 => (some ((1 : Int32), m6)))))
  else (some ((-1000002 : Int32), m)))
  else (some ((-1000001 : Int32), m))))
def f_X6_restore (x1 : Int32) (m : Mm) : Option (Int32 × Mm) :=
  (if x1 < 0 then (some ((-1000001 : Int32), m))
  else (if x1 < (2 : Int32) then (gd_ (¬ (x1 < 0 ∨ 2 ≤ ix x1)) (nm_ ((rf 262 (ix x1)) : Nat) fun w4 => (if (m w4 0) = 0 then (some ((-1000002 : Int32), m))
  else (gd_ (¬ (x1 < 0 ∨ 2 ≤ ix x1)) (nm_ ((rf 262 (ix x1)) : Nat) fun w7 => (bd1 (f_X5_become 13 w7 m) fun m8 => (bd1 (f_X0_forget m8) fun m9 => (some ((1 : Int32), m9)))))))))
  else (some ((-1000001 : Int32), m))))
def f_X6_kind (x1 : Int32) (m : Mm) : Option Int32 :=
  (if (f_X5_has 13 x1 m) = 0 then (some (-1000001 : Int32))
  else (gd_ (¬ (x1 < 0 ∨ 7 ≤ ix x1)) (some (m 14 (ix x1)))))
def lb_X6_isOf_4 (rec : Int32 → Int32 → Int32 → Option (Int32 ⊕ Int32))  (y1 : Int32) (y2 : Int32) (y3 : Int32) : Option (Int32 ⊕ Int32) :=
  (if (3 : Int32) ≤ y3 then (some (.inr (0 : Int32)))
  else (if y2 = y1 then (some (.inl (1 : Int32)))
  else (gd_ (¬ (y2 < 0 ∨ 6 ≤ ix y2)) (nm_ ((tbl1 (ix y2)) : Int32) fun v4 => (nm_ ((y3 + (1 : Int32)) : Int32) fun v5 => (rec y1 v4 v5))))))
def lp_X6_isOf_4  : Nat → Int32 → Int32 → Int32 → Option (Int32 ⊕ Int32)
  | 0, _, _, _ => none
  | n + 1, y1, y2, y3 => lb_X6_isOf_4 (lp_X6_isOf_4 n) y1 y2 y3
def f_X6_isOf (x0 : Int32) (x1 : Int32) : Option Int32 :=
  (bdS1 (lp_X6_isOf_4 FU x1 x0 (0 : Int32)) fun z6 => (some (0 : Int32)))
def f_X6_as (x1 : Int32) (x2 : Int32) (m : Mm) : Option (Int32 × Mm) :=
  (if (f_X5_has 13 x1 m) = 0 then (some ((-1000001 : Int32), m))
  else (if x2 < 0 then (some ((-1000001 : Int32), m))
  else (if x2 ≤ (5 : Int32) then (gd_ (¬ (x1 < 0 ∨ 7 ≤ ix x1)) (bd1 (f_X6_isOf (m 14 (ix x1)) x2) fun r5 => (if r5 = 0 then (bd2 (f_X6_find (3 : Int32) m) fun r8 m7 => (some (r8, m7)))
  else (bd2 (f_X6_findNothing x1 m) fun r10 m9 => (some (r10, m9))))))
  else (some ((-1000001 : Int32), m)))))
def f_X6_leaveTrace (x1 : Int32) (m : Mm) : Option Mm :=
  (if (16 : Int32) ≤ (m 0 8) then (some m)
  else (gd_ (¬ ((m 0 8) < 0 ∨ 16 ≤ ix (m 0 8))) (nm_ ((st_ m 263 (ix (m 0 8)) x1) : Mm) fun m2 => (nm_ (((m2 0 8) + (1 : Int32)) : Int32) fun v3 => (nm_ ((st_ m2 0 8 v3) : Mm) fun m4 => (some m4))))))
def lb_X6_give (rec : Int32 → Int32 → Int32 → Mm → Option (Int32 × Mm)) (x1 x2 x3 : Int32) (m : Mm) : Option (Int32 × Mm) :=
  (if x3 < (8 : Int32) then (bd1 (f_X6_leaveTrace x1 m) fun m2 => (nm_ ((x3 + (1 : Int32)) : Int32) fun v3 => (gd_ (¬ (x2 < 0 ∨ 7 ≤ ix x2)) (nm_ ((m2 14 (ix x2)) : Int32) fun v5 => (if x1 = (10 : Int32) then (gd_ (¬ (x2 < 0 ∨ 7 ≤ ix x2)) (some ((m2 15 (ix x2)), m2)))
  else (if x1 = (11 : Int32) then (bd2 (rec (10 : Int32) x2 v3 m2) fun r8 m7 => (gd_ (¬ (v5 < 0 ∨ 6 ≤ ix v5)) (bd2 (rec (tbl3 (ix v5)) x2 v3 m7) fun r11 m10 => (some ((r8 + r11), m10)))))
  else (if x1 = (12 : Int32) then (bd2 (rec (11 : Int32) x2 v3 m2) fun r13 m12 => (some ((-r13), m12)))
  else (if x1 = (13 : Int32) then (bd2 (rec (10 : Int32) x2 v3 m2) fun r15 m14 => (some ((r15 - (100 : Int32)), m14)))
  else (if x1 = (14 : Int32) then (bd2 (rec (13 : Int32) x2 v3 m2) fun r17 m16 => (some (((2 : Int32) * r17), m16)))
  else (if x1 = (15 : Int32) then (some ((0 : Int32), m2))
  else (if x1 = (16 : Int32) then (some ((0 : Int32), m2))
  else (if x1 = (17 : Int32) then (some ((0 : Int32), m2))
  else (if x1 = (18 : Int32) then (some ((0 : Int32), m2))
  else (if x1 = (19 : Int32) then (some ((0 : Int32), m2))
  else (if x1 = (20 : Int32) then (some (x2, m2))
  else (if x1 = (21 : Int32) then (bd2 (rec (20 : Int32) x2 v3 m2) fun r19 m18 => (gd_ (¬ (x2 < 0 ∨ 7 ≤ ix x2)) (some ((r19 + (m18 17 (ix x2))), m18))))
  else (if x1 = (22 : Int32) then (bd2 (rec (21 : Int32) x2 v3 m2) fun r22 m21 => (some ((r22 - (1000 : Int32)), m21)))
  else (if x1 = (23 : Int32) then (bd2 (rec (20 : Int32) x2 v3 m2) fun r24 m23 => (gd_ (¬ (v5 < 0 ∨ 6 ≤ ix v5)) (bd2 (rec (tbl2 (ix v5)) x2 v3 m23) fun r27 m26 => (some ((r24 - r27), m26)))))
  else (if x1 = (24 : Int32) then (bd2 (rec (21 : Int32) x2 v3 m2) fun r29 m28 => (some (((2 : Int32) * r29), m28)))
  else (some ((0 : Int32), m2)))))))))))))))))))))
  else (some ((0 : Int32), m)))
def f_X6_give : Nat → Int32 → Int32 → Int32 → Mm → Option (Int32 × Mm)
  | 0, _, _, _, _ => none
  | n + 1, x1, x2, x3, m => lb_X6_give (f_X6_give n) x1 x2 x3 m
def f_X6_ask (x1 : Int32) (x2 : Int32) (m : Mm) : Option (Int32 × Mm) :=
  (if (f_X5_has 13 x1 m) = 0 then (some ((-1000001 : Int32), m))
  else (if (f_X6_isFlag x2) = 0 then (some ((-1000001 : Int32), m))
  else (nm_ ((st_ m 0 8 (0 : Int32)) : Mm) fun m3 => (gd_ (¬ (x1 < 0 ∨ 7 ≤ ix x1)) (nm_ ((m3 14 (ix x1)) : Int32) fun v5 => (bd1 ((if x2 = 0 then (gd_ (¬ (v5 < 0 ∨ 6 ≤ ix v5)) (some (tbl2 (ix v5))))
  else (gd_ (¬ (v5 < 0 ∨ 6 ≤ ix v5)) (some (tbl3 (ix v5))))) : Option Int32) fun j9 => (bd2 (f_X6_give 10 j9 x1 (0 : Int32) m3) fun r11 m10 => (some (r11, m10)))))))))
def f_X6_trace (x1 : Int32) (m : Mm) : Option Int32 :=
  (if x1 < 0 then (some (-1000000 : Int32))
  else (if x1 < (m 0 8) then (gd_ (¬ (x1 < 0 ∨ 16 ≤ ix x1)) (some (m 263 (ix x1))))
  else (some (-1000000 : Int32))))
def lb_X6_rowsThere_4 (rec : Int32 → Int32 → Mm → Option Int32)  (y1 : Int32) (y2 : Int32) (m : Mm) : Option Int32 :=
  (if (8 : Int32) ≤ y2 then (some y1)
  else (gd_ (¬ (y2 < 0 ∨ 8 ≤ ix y2)) (nm_ ((rf 1 (ix y2)) : Nat) fun w3 => (bd1 ((if (m w3 0) = 0 then (some y1)
  else (nm_ ((y1 + (1 : Int32)) : Int32) fun v5 => (some v5))) : Option Int32) fun j6 => (nm_ ((y2 + (1 : Int32)) : Int32) fun v7 => (rec j6 v7 m))))))
def lp_X6_rowsThere_4  : Nat → Int32 → Int32 → Mm → Option Int32
  | 0, _, _, _ => none
  | n + 1, y1, y2, m => lb_X6_rowsThere_4 (lp_X6_rowsThere_4 n) y1 y2 m
def f_X6_rowsThere  (m : Mm) : Option Int32 :=
  (bd1 (lp_X6_rowsThere_4 FU (0 : Int32) (0 : Int32) m) fun z8 => (some z8))
def f_X6_count (x1 : Int32) (m : Mm) : Option Int32 :=
  (if x1 = (0 : Int32) then (bd1 (f_X6_rowsThere m) fun r1 => (some r1))
  else (if x1 = (1 : Int32) then (some (m 13 0))
  else (if x1 = (2 : Int32) then (some (m 13 3))
  else (if x1 = (3 : Int32) then (some (m 13 1))
  else (if x1 = (4 : Int32) then (some (m 13 2))
  else (if x1 = (5 : Int32) then (some (m 13 4))
  else (if x1 = (6 : Int32) then (some (m 13 5))
  else (if x1 = (7 : Int32) then (some (m 13 6))
  else (if x1 = (8 : Int32) then (some (m 22 2))
  else (if x1 = (9 : Int32) then (some (m 2 2))
  else (some (-1000001 : Int32))))))))))))
def f_X6_status  (m : Mm) : Int32 :=
  (m 0 9)
def f_X7_in (x0 : Int32) (x1 : Int32) (x2 : Int32) : Int32 :=
  (if x0 < x1 then (0 : Int32)
  else (if x2 < x0 then (0 : Int32)
  else (1 : Int32)))
def f_X7_has (x0 : Int32) (x1 : Int32) : Int32 :=
  (if ((x0 >>> (x1 &&& 31)) &&& (1 : Int32)) = (1 : Int32) then (1 : Int32)
  else (0 : Int32))
def lb_X7_ones_4 (rec : Int32 → Int32 → Int32 → Option Int32)  (y0 : Int32) (y1 : Int32) (y2 : Int32) : Option Int32 :=
  (if (7 : Int32) ≤ y2 then (some y1)
  else (nm_ ((y1 + ((y0 >>> (y2 &&& 31)) &&& (1 : Int32))) : Int32) fun v2 => (nm_ ((y2 + (1 : Int32)) : Int32) fun v3 => (rec y0 v2 v3))))
def lp_X7_ones_4  : Nat → Int32 → Int32 → Int32 → Option Int32
  | 0, _, _, _ => none
  | n + 1, y0, y1, y2 => lb_X7_ones_4 (lp_X7_ones_4 n) y0 y1 y2
def f_X7_ones (x0 : Int32) : Option Int32 :=
  (bd1 (lp_X7_ones_4 FU x0 (0 : Int32) (0 : Int32)) fun z4 => (some z4))
def f_X7_lesser (x0 : Int32) (x1 : Int32) : Int32 :=
  (if x1 ≤ x0 then x1
  else x0)
def f_X7_greater (x0 : Int32) (x1 : Int32) : Int32 :=
  (if x0 ≤ x1 then x1
  else x0)
def f_X7_found (x1 : Int32) (m : Mm) : Option (Int32 × Mm) :=
  (nm_ ((st_ m 298 4 x1) : Mm) fun m1 => (some (((-1000010 : Int32) - x1), m1)))
def f_X7_well (x1 : Int32) (m : Mm) : Option (Int32 × Mm) :=
  (nm_ ((st_ m 298 4 (0 : Int32)) : Mm) fun m1 => (some (x1, m1)))
def lb_X7_copies_3 (rec : Int32 → Int32 → Int32 → Mm → Option Mm) (q1 nq1 : Nat) (q3 nq3 : Nat) (y1 : Int32) (y3 : Int32) (y4 : Int32) (m : Mm) : Option Mm :=
  (if (55 : Int32) ≤ y4 then (some m)
  else (gd_ (¬ ((y1 + y4) < 0 ∨ nq1 ≤ ix (y1 + y4))) (nm_ ((m q1 (ix (y1 + y4))) : Int32) fun v3 => (gd_ (¬ ((y3 + y4) < 0 ∨ nq3 ≤ ix (y3 + y4))) (nm_ ((st_ m q3 (ix (y3 + y4)) v3) : Mm) fun m4 => (nm_ ((y4 + (1 : Int32)) : Int32) fun v5 => (rec y1 y3 v5 m4)))))))
def lp_X7_copies_3 (q1 nq1 : Nat) (q3 nq3 : Nat) : Nat → Int32 → Int32 → Int32 → Mm → Option Mm
  | 0, _, _, _, _ => none
  | n + 1, y1, y3, y4, m => lb_X7_copies_3 (lp_X7_copies_3 q1 nq1 q3 nq3 n) q1 nq1 q3 nq3 y1 y3 y4 m
def f_X7_copies (q1 nq1 : Nat) (x1 : Int32) (q3 nq3 : Nat) (x3 : Int32) (m : Mm) : Option Mm :=
  (bd1 (lp_X7_copies_3 q1 nq1 q3 nq3 FU x1 x3 (0 : Int32) m) fun m7 => (some m7))
def f_X7_isRow (x0 : Int32) : Option Int32 :=
  (nm_ ((f_X7_in x0 (0 : Int32) (7 : Int32)) : Int32) fun v1 => (gd_ ((v1 = 0 ∨ v1 = 1)) (some v1)))
def f_X7_isMissing (x1 : Int32) (m : Mm) : Option Int32 :=
  (gd_ (¬ (x1 < 0 ∨ 8 ≤ ix x1)) (if (m 299 (ix x1)) = (-1000000 : Int32) then (some (1 : Int32))
  else (some (0 : Int32))))
def f_X7_cut (x0 : Int32) (x1 : Int32) : Int32 :=
  (if x0 = 0 then ((x1 <<< ((24 : Int32) &&& 31)) >>> ((24 : Int32) &&& 31))
  else (if x0 = (1 : Int32) then ((x1 <<< ((16 : Int32) &&& 31)) >>> ((16 : Int32) &&& 31))
  else x1))
def lb_X7_row_52 (rec : Int32 → Int32 → Int32 → Mm → Option Mm)  (y1 : Int32) (y3 : Int32) (y4 : Int32) (m : Mm) : Option Mm :=
  (if (40 : Int32) ≤ y4 then (some m)
  else (gd_ (¬ ((((40 : Int32) * y1) + y4) < 0 ∨ 320 ≤ ix (((40 : Int32) * y1) + y4))) (nm_ ((st_ m 301 (ix (((40 : Int32) * y1) + y4)) (0 : Int32)) : Mm) fun m9 => (nm_ ((y4 + (1 : Int32)) : Int32) fun v10 => (rec y1 y3 v10 m9)))))
def lp_X7_row_52  : Nat → Int32 → Int32 → Int32 → Mm → Option Mm
  | 0, _, _, _, _ => none
  | n + 1, y1, y3, y4, m => lb_X7_row_52 (lp_X7_row_52 n) y1 y3 y4 m
def f_X7_row (x1 : Int32) (x2 : Int32) (x3 : Int32) (m : Mm) : Option (Int32 × Mm) :=
  (bd1 (f_X7_isRow x1) fun r1 => (if r1 = 0 then (some ((-1000001 : Int32), m))
  else (if (f_X7_in x2 (0 : Int32) (2 : Int32)) = 0 then (some ((-1000001 : Int32), m))
  else (if x3 ≤ (40 : Int32) then (if 0 ≤ x3 then (gd_ (¬ (x1 < 0 ∨ 8 ≤ ix x1)) (nm_ ((st_ m 299 (ix x1) x2) : Mm) fun m6 => (gd_ (¬ (x1 < 0 ∨ 8 ≤ ix x1)) (nm_ ((st_ m6 300 (ix x1) x3) : Mm) fun m7 => (bd1 (lp_X7_row_52 FU x1 x3 (0 : Int32) m7) fun m12 => (bd2 (f_X7_well x3 m12) fun r15 m14 => (some (r15, m14))))))))
  else (bd2 (f_X7_found (4 : Int32) m) fun r19 m18 => (some (r19, m18))))
  else (some ((-1000001 : Int32), m))))))
def f_X7_set (x1 : Int32) (x2 : Int32) (x3 : Int32) (m : Mm) : Option (Int32 × Mm) :=
  (bd1 (f_X7_isRow x1) fun r1 => (if r1 = 0 then (some ((-1000001 : Int32), m))
  else (bd1 (f_X7_isMissing x1 m) fun r3 => (if r3 = 0 then (gd_ (¬ (x1 < 0 ∨ 8 ≤ ix x1)) (if (f_X7_in x2 (0 : Int32) ((m 300 (ix x1)) - (1 : Int32))) = 0 then (bd2 (f_X7_found (2 : Int32) m) fun r15 m14 => (some (r15, m14)))
  else (gd_ (¬ (x1 < 0 ∨ 8 ≤ ix x1)) (nm_ ((f_X7_cut (m 299 (ix x1)) x3) : Int32) fun v8 => (gd_ (¬ ((((40 : Int32) * x1) + x2) < 0 ∨ 320 ≤ ix (((40 : Int32) * x1) + x2))) (nm_ ((st_ m 301 (ix (((40 : Int32) * x1) + x2)) v8) : Mm) fun m9 => (gd_ (¬ ((((40 : Int32) * x1) + x2) < 0 ∨ 320 ≤ ix (((40 : Int32) * x1) + x2))) (bd2 (f_X7_well (m9 301 (ix (((40 : Int32) * x1) + x2))) m9) fun r12 m11 => (some (r12, m11))))))))))
  else (bd2 (f_X7_found (1 : Int32) m) fun r17 m16 => (some (r17, m16)))))))
def f_X7_isPart (x1 : Int32) (x2 : Int32) (x3 : Int32) (m : Mm) : Option Int32 :=
  (if x2 < 0 then (some (0 : Int32))
  else (if x3 < 0 then (some (0 : Int32))
  else (gd_ (¬ (x1 < 0 ∨ 8 ≤ ix x1)) (if (m 300 (ix x1)) < x2 then (some (0 : Int32))
  else (gd_ (¬ (x1 < 0 ∨ 8 ≤ ix x1)) (if ((m 300 (ix x1)) - x2) < x3 then (some (0 : Int32))
  else (some (1 : Int32))))))))
def lb_X7_copy_92 (rec : Int32 → Int32 → Int32 → Int32 → Int32 → Int32 → Mm → Option Mm)  (y1 : Int32) (y2 : Int32) (y3 : Int32) (y4 : Int32) (y5 : Int32) (y6 : Int32) (m : Mm) : Option Mm :=
  (if y5 ≤ y6 then (some m)
  else (gd_ (¬ (((((40 : Int32) * y1) + y2) + y6) < 0 ∨ 320 ≤ ix ((((40 : Int32) * y1) + y2) + y6))) (nm_ ((m 301 (ix ((((40 : Int32) * y1) + y2) + y6))) : Int32) fun v22 => (gd_ (¬ (y6 < 0 ∨ 40 ≤ ix y6)) (nm_ ((st_ m 302 (ix y6) v22) : Mm) fun m23 => (nm_ ((y6 + (1 : Int32)) : Int32) fun v24 => (rec y1 y2 y3 y4 y5 v24 m23)))))))
def lp_X7_copy_92  : Nat → Int32 → Int32 → Int32 → Int32 → Int32 → Int32 → Mm → Option Mm
  | 0, _, _, _, _, _, _, _ => none
  | n + 1, y1, y2, y3, y4, y5, y6, m => lb_X7_copy_92 (lp_X7_copy_92 n) y1 y2 y3 y4 y5 y6 m
def lb_X7_copy_129 (rec : Int32 → Int32 → Int32 → Int32 → Mm → Option Mm)  (y3 : Int32) (y4 : Int32) (y5 : Int32) (y6 : Int32) (m : Mm) : Option Mm :=
  (if y5 ≤ y6 then (some m)
  else (gd_ (¬ (y6 < 0 ∨ 40 ≤ ix y6)) (nm_ ((m 302 (ix y6)) : Int32) fun v30 => (gd_ (¬ (((((40 : Int32) * y3) + y4) + y6) < 0 ∨ 320 ≤ ix ((((40 : Int32) * y3) + y4) + y6))) (nm_ ((st_ m 301 (ix ((((40 : Int32) * y3) + y4) + y6)) v30) : Mm) fun m31 => (nm_ ((y6 + (1 : Int32)) : Int32) fun v32 => (rec y3 y4 y5 v32 m31)))))))
def lp_X7_copy_129  : Nat → Int32 → Int32 → Int32 → Int32 → Mm → Option Mm
  | 0, _, _, _, _, _ => none
  | n + 1, y3, y4, y5, y6, m => lb_X7_copy_129 (lp_X7_copy_129 n) y3 y4 y5 y6 m
def f_X7_copy (x1 : Int32) (x2 : Int32) (x3 : Int32) (x4 : Int32) (x5 : Int32) (m : Mm) : Option (Int32 × Mm) :=
  (bd1 (f_X7_isRow x1) fun r1 => (if r1 = 0 then (some ((-1000001 : Int32), m))
  else (bd1 (f_X7_isRow x3) fun r3 => (if r3 = 0 then (some ((-1000001 : Int32), m))
  else (bd1 (f_X7_isMissing x1 m) fun r5 => (if r5 = 0 then (bd1 (f_X7_isMissing x3 m) fun r9 => (if r9 = 0 then (gd_ (¬ (x1 < 0 ∨ 8 ≤ ix x1)) (gd_ (¬ (x3 < 0 ∨ 8 ≤ ix x3)) (if (m 299 (ix x1)) = (m 299 (ix x3)) then (bd1 (f_X7_isPart x1 x2 x5 m) fun r14 => (if r14 = 0 then (bd2 (f_X7_found (2 : Int32) m) fun r17 m16 => (some (r17, m16)))
  else (bd1 (f_X7_isPart x3 x4 x5 m) fun r18 => (if r18 = 0 then (bd2 (f_X7_found (2 : Int32) m) fun r39 m38 => (some (r39, m38)))
  else (bd1 (lp_X7_copy_92 FU x1 x2 x3 x4 x5 (0 : Int32) m) fun m26 => (bd1 (lp_X7_copy_129 FU x3 x4 x5 (0 : Int32) m26) fun m34 => (bd2 (f_X7_well x5 m34) fun r37 m36 => (some (r37, m36)))))))))
  else (bd2 (f_X7_found (5 : Int32) m) fun r41 m40 => (some (r41, m40))))))
  else (bd2 (f_X7_found (1 : Int32) m) fun r43 m42 => (some (r43, m42)))))
  else (bd2 (f_X7_found (1 : Int32) m) fun r8 m7 => (some (r8, m7)))))))))
def f_X7_drop (x1 : Int32) (m : Mm) : Option (Int32 × Mm) :=
  (bd1 (f_X7_isRow x1) fun r1 => (if r1 = 0 then (some ((-1000001 : Int32), m))
  else (bd1 (f_X7_isMissing x1 m) fun r3 => (if r3 = 0 then (gd_ (¬ (x1 < 0 ∨ 8 ≤ ix x1)) (nm_ ((st_ m 299 (ix x1) (-1000000 : Int32)) : Mm) fun m5 => (gd_ (¬ (x1 < 0 ∨ 8 ≤ ix x1)) (bd2 (f_X7_well (m5 300 (ix x1)) m5) fun r8 m7 => (some (r8, m7))))))
  else (bd2 (f_X7_found (1 : Int32) m) fun r11 m10 => (some (r11, m10)))))))
def f_X7_feed (x1 : Int32) (m : Mm) : Option (Int32 × Mm) :=
  (if (f_X7_in x1 (0 : Int32) (255 : Int32)) = 0 then (some ((-1000001 : Int32), m))
  else (if (m 298 6) = (110 : Int32) then (some ((-1000003 : Int32), m))
  else (gd_ (¬ ((m 298 6) < 0 ∨ 110 ≤ ix (m 298 6))) (nm_ ((st_ m 303 (ix (m 298 6)) x1) : Mm) fun m3 => (nm_ (((m3 298 6) + (1 : Int32)) : Int32) fun v4 => (nm_ ((st_ m3 298 6 v4) : Mm) fun m5 => (some ((m5 298 6), m5))))))))
def f_X7_byteAt (x1 : Int32) (m : Mm) : Option Int32 :=
  (if (m 298 6) ≤ x1 then (some (-1 : Int32))
  else (gd_ (¬ (x1 < 0 ∨ 110 ≤ ix x1)) (some (m 303 (ix x1)))))
def lb_X7_advances_38 (rec : Mm → Option Mm)  (m : Mm) : Option Mm :=
  (bd1 (f_X7_byteAt (m 298 9) m) fun r17 => (if (f_X7_in r17 (48 : Int32) (57 : Int32)) = 0 then (some m)
  else (bd1 ((if (2 : Int32) ≤ ((m 298 9) - (m 298 10)) then (some (m 298 12))
  else (bd1 (f_X7_byteAt (m 298 9) m) fun r20 => (some ((((10 : Int32) * (m 298 12)) + r20) - (48 : Int32))))) : Option Int32) fun j21 => (nm_ ((st_ m 298 12 j21) : Mm) fun m22 => (nm_ (((m22 298 9) + (1 : Int32)) : Int32) fun v23 => (nm_ ((st_ m22 298 9 v23) : Mm) fun m24 => (rec m24)))))))
def lp_X7_advances_38  : Nat → Mm → Option Mm
  | 0, _ => none
  | n + 1, m => lb_X7_advances_38 (lp_X7_advances_38 n) m
def f_X7_advances  (m : Mm) : Option Mm :=
  (nm_ ((m 298 9) : Int32) fun v1 => (nm_ ((st_ m 298 10 v1) : Mm) fun m2 => (bd1 (f_X7_byteAt (m2 298 9) m2) fun r3 => (nm_ ((st_ m2 298 12 r3) : Mm) fun m4 => (if (f_X7_in r3 (48 : Int32) (57 : Int32)) = 0 then (nm_ ((if 0 ≤ r3 then (if (f_X7_in r3 (97 : Int32) (122 : Int32)) = 0 then (if r3 = (44 : Int32) then (3 : Int32)
  else (if r3 = (59 : Int32) then (4 : Int32)
  else (5 : Int32)))
  else (1 : Int32))
  else (0 : Int32)) : Int32) fun j10 => (nm_ ((st_ m4 298 11 j10) : Mm) fun m11 => (nm_ ((if (m11 298 11) = 0 then (0 : Int32)
  else (1 : Int32)) : Int32) fun j13 => (nm_ (((m11 298 9) + j13) : Int32) fun v14 => (nm_ ((st_ m11 298 9 v14) : Mm) fun m15 => (some m15))))))
  else (nm_ ((st_ m4 298 12 (0 : Int32)) : Mm) fun m16 => (bd1 (lp_X7_advances_38 FU m16) fun m25 => (nm_ ((if (3 : Int32) ≤ ((m25 298 9) - (m25 298 10)) then (5 : Int32)
  else (2 : Int32)) : Int32) fun j28 => (nm_ ((st_ m25 298 11 j28) : Mm) fun m29 => (some m29))))))))))
def f_X7_isWell  (m : Mm) : Int32 :=
  (if 0 ≤ (m 298 8) then (0 : Int32)
  else (1 : Int32))
def f_X7_takes (x1 : Int32) (x2 : Int32) (m : Mm) : Option (Int32 × Mm) :=
  (if (f_X7_isWell m) = 0 then (some ((0 : Int32), m))
  else (if x1 = 0 then (nm_ ((m 298 10) : Int32) fun v5 => (nm_ ((st_ m 298 8 v5) : Mm) fun m6 => (nm_ ((st_ m6 298 7 x2) : Mm) fun m7 => (some ((0 : Int32), m7)))))
  else (nm_ ((m 298 12) : Int32) fun v3 => (bd1 (f_X7_advances m) fun m4 => (some (v3, m4))))))
def f_X7_figure (x1 : Int32) (x2 : Int32) (m : Mm) : Option (Int32 × Mm) :=
  (if (f_X7_isWell m) = 0 then (bd2 (f_X7_takes (f_X7_in (m 298 12) x1 x2) (2 : Int32) m) fun r3 m2 => (some (r3, m2)))
  else (if (m 298 11) = (2 : Int32) then (bd2 (f_X7_takes (f_X7_in (m 298 12) x1 x2) (2 : Int32) m) fun r6 m5 => (some (r6, m5)))
  else (bd2 (f_X7_takes (0 : Int32) (1 : Int32) m) fun r8 m7 => (some (r8, m7)))))
def f_X7_kindOf (x0 : Int32) : Int32 :=
  (if x0 = (97 : Int32) then (1 : Int32)
  else (if x0 = (114 : Int32) then (2 : Int32)
  else (if x0 = (99 : Int32) then (3 : Int32)
  else (if x0 = (109 : Int32) then (4 : Int32)
  else (if x0 = (111 : Int32) then (5 : Int32)
  else (0 : Int32))))))
def f_X7_follows (x1 : Int32) (x2 : Int32) (m : Mm) : Option (Int32 × Mm) :=
  (nm_ ((if (m 298 11) = (3 : Int32) then (1 : Int32)
  else (0 : Int32)) : Int32) fun j2 => (bd2 (f_X7_takes j2 (1 : Int32) m) fun r4 m3 => (bd2 (f_X7_figure x1 x2 m3) fun r6 m5 => (some (r6, m5)))))
def f_X7_readsGuest  (m : Mm) : Option Mm :=
  (nm_ ((f_X7_kindOf (m 298 12)) : Int32) fun v1 => (nm_ ((if (7 : Int32) ≤ (m 305 (ix (2 : Int32))) then (0 : Int32)
  else (1 : Int32)) : Int32) fun j3 => (bd2 (f_X7_takes j3 (3 : Int32) m) fun r5 m4 => (nm_ ((if (7 : Int32) ≤ (m4 305 (ix (2 : Int32))) then (0 : Int32)
  else (m4 305 (ix (2 : Int32)))) : Int32) fun j7 => (nm_ (((6 : Int32) + ((7 : Int32) * j7)) : Int32) fun v8 => (bd2 (f_X7_figure (0 : Int32) (9 : Int32) m4) fun r10 m9 => (bd2 (f_X7_follows (0 : Int32) (99 : Int32) m9) fun r12 m11 => (bd2 (f_X7_follows (0 : Int32) (9 : Int32) m11) fun r14 m13 => (nm_ ((if (m13 298 11) = (4 : Int32) then (1 : Int32)
  else (0 : Int32)) : Int32) fun j16 => (bd2 (f_X7_takes j16 (1 : Int32) m13) fun r18 m17 => (if (f_X7_isWell m17) = 0 then (some m17)
  else (gd_ (¬ (v8 < 0 ∨ 55 ≤ ix v8)) (nm_ ((st_ m17 305 (ix v8) v1) : Mm) fun m20 => (gd_ (¬ ((v8 + (1 : Int32)) < 0 ∨ 55 ≤ ix (v8 + (1 : Int32)))) (nm_ ((st_ m20 305 (ix (v8 + (1 : Int32))) r10) : Mm) fun m21 => (gd_ (¬ ((v8 + (2 : Int32)) < 0 ∨ 55 ≤ ix (v8 + (2 : Int32)))) (nm_ ((st_ m21 305 (ix (v8 + (2 : Int32))) r12) : Mm) fun m22 => (gd_ (¬ ((v8 + (3 : Int32)) < 0 ∨ 55 ≤ ix (v8 + (3 : Int32)))) (nm_ ((st_ m22 305 (ix (v8 + (3 : Int32))) r14) : Mm) fun m23 => (nm_ ((m23 305 (ix (2 : Int32))) : Int32) fun v24 => (gd_ (¬ ((v8 + (4 : Int32)) < 0 ∨ 55 ≤ ix (v8 + (4 : Int32)))) (nm_ ((st_ m23 305 (ix (v8 + (4 : Int32))) v24) : Mm) fun m25 => (gd_ (¬ ((v8 + (5 : Int32)) < 0 ∨ 55 ≤ ix (v8 + (5 : Int32)))) (nm_ ((st_ m25 305 (ix (v8 + (5 : Int32))) (1 : Int32)) : Mm) fun m26 => (nm_ (((m26 305 (ix (2 : Int32))) + (1 : Int32)) : Int32) fun v27 => (nm_ ((st_ m26 305 (ix (2 : Int32)) v27) : Mm) fun m28 => (some m28)))))))))))))))))))))))))))
def f_X7_must (x1 : Int32) (m : Mm) : Option Mm :=
  (if (f_X7_isWell m) = 0 then (some m)
  else (if x1 = 0 then (bd2 (f_X7_takes (0 : Int32) (1 : Int32) m) fun r4 m3 => (some m3))
  else (some m)))
def lb_X7_wedding_2 (rec : Int32 → Mm → Option Mm)  (y1 : Int32) (m : Mm) : Option Mm :=
  (if (55 : Int32) ≤ y1 then (some m)
  else (gd_ (¬ (y1 < 0 ∨ 55 ≤ ix y1)) (nm_ ((st_ m 305 (ix y1) (0 : Int32)) : Mm) fun m2 => (nm_ ((y1 + (1 : Int32)) : Int32) fun v3 => (rec v3 m2)))))
def lp_X7_wedding_2  : Nat → Int32 → Mm → Option Mm
  | 0, _, _ => none
  | n + 1, y1, m => lb_X7_wedding_2 (lp_X7_wedding_2 n) y1 m
def lb_X7_wedding_135 (rec : Mm → Option Mm)  (m : Mm) : Option Mm :=
  (if (f_X7_isWell m) = 0 then (some m)
  else (if (m 298 11) = (1 : Int32) then (if (f_X7_kindOf (m 298 12)) ≤ 0 then (some m)
  else (bd1 (f_X7_readsGuest m) fun m32 => (rec m32)))
  else (some m)))
def lp_X7_wedding_135  : Nat → Mm → Option Mm
  | 0, _ => none
  | n + 1, m => lb_X7_wedding_135 (lp_X7_wedding_135 n) m
def f_X7_wedding  (m : Mm) : Option (Int32 × Mm) :=
  (bd1 (lp_X7_wedding_2 FU (0 : Int32) m) fun m5 => (nm_ ((st_ m5 298 9 (0 : Int32)) : Mm) fun m7 => (nm_ ((st_ m7 298 8 (-1 : Int32)) : Mm) fun m8 => (bd1 (f_X7_advances m8) fun m9 => (nm_ ((if (m9 298 11) = (1 : Int32) then (if (m9 298 12) = (119 : Int32) then (1 : Int32)
  else (0 : Int32))
  else (0 : Int32)) : Int32) fun j12 => (bd2 (f_X7_takes j12 (1 : Int32) m9) fun r14 m13 => (bd2 (f_X7_figure (1 : Int32) (99 : Int32) m13) fun r16 m15 => (nm_ ((st_ m15 305 (ix (0 : Int32)) r16) : Mm) fun m17 => (bd2 (f_X7_follows (0 : Int32) (15 : Int32) m17) fun r19 m18 => (nm_ ((st_ m18 305 (ix (1 : Int32)) r19) : Mm) fun m20 => (nm_ ((if (m20 298 11) = (4 : Int32) then (1 : Int32)
  else (0 : Int32)) : Int32) fun j22 => (bd2 (f_X7_takes j22 (1 : Int32) m20) fun r24 m23 => (nm_ ((if (m23 298 11) = (1 : Int32) then (if (f_X7_kindOf (m23 298 12)) ≤ 0 then (0 : Int32)
  else (1 : Int32))
  else (0 : Int32)) : Int32) fun j27 => (bd1 (f_X7_must j27 m23) fun m28 => (bd1 (lp_X7_wedding_135 FU m28) fun m33 => (nm_ ((if (m33 298 11) = 0 then (1 : Int32)
  else (0 : Int32)) : Int32) fun j36 => (bd1 (f_X7_must j36 m33) fun m37 => (nm_ ((st_ m37 298 6 (0 : Int32)) : Mm) fun m38 => (if (f_X7_isWell m38) = 0 then (some (((-1000100 : Int32) - (m38 298 8)), m38))
  else (bd1 (f_X7_copies 305 55 (0 : Int32) 304 55 (0 : Int32) m38) fun m40 => (nm_ ((st_ m40 298 17 (0 : Int32)) : Mm) fun m41 => (some ((m41 304 (ix (2 : Int32))), m41)))))))))))))))))))))))
def f_X7_fault  (m : Mm) : Int32 :=
  (m 298 7)
def f_X7_isWedding  (m : Mm) : Int32 :=
  (if (m 304 (ix (0 : Int32))) ≤ 0 then (0 : Int32)
  else (1 : Int32))
def f_X7_isGuest (x1 : Int32) (m : Mm) : Option Int32 :=
  (nm_ ((f_X7_in x1 (0 : Int32) ((m 304 (ix (2 : Int32))) - (1 : Int32))) : Int32) fun v1 => (gd_ ((v1 = 0 ∨ v1 = 1)) (some v1)))
def lb_X7_inSeat_2 (rec : Int32 → Int32 → Mm → Option (Int32 ⊕ Int32)) (q1 nq1 : Nat) (y1 : Int32) (y2 : Int32) (m : Mm) : Option (Int32 ⊕ Int32) :=
  (gd_ (¬ ((2 : Int32) < 0 ∨ nq1 ≤ ix (2 : Int32))) (if (m q1 (ix (2 : Int32))) ≤ y2 then (some (.inr (0 : Int32)))
  else (gd_ (¬ ((((6 : Int32) + ((7 : Int32) * y2)) + (4 : Int32)) < 0 ∨ nq1 ≤ ix (((6 : Int32) + ((7 : Int32) * y2)) + (4 : Int32)))) (if (m q1 (ix (((6 : Int32) + ((7 : Int32) * y2)) + (4 : Int32)))) = y1 then (some (.inl y2))
  else (nm_ ((y2 + (1 : Int32)) : Int32) fun v5 => (rec y1 v5 m))))))
def lp_X7_inSeat_2 (q1 nq1 : Nat) : Nat → Int32 → Int32 → Mm → Option (Int32 ⊕ Int32)
  | 0, _, _, _ => none
  | n + 1, y1, y2, m => lb_X7_inSeat_2 (lp_X7_inSeat_2 q1 nq1 n) q1 nq1 y1 y2 m
def f_X7_inSeat (q1 nq1 : Nat) (x1 : Int32) (m : Mm) : Option Int32 :=
  (bdS1 (lp_X7_inSeat_2 q1 nq1 FU x1 (0 : Int32) m) fun z6 => (some (-1000000 : Int32)))
def f_X7_lastIn (q1 nq1 : Nat) (x1 : Int32) (m : Mm) : Option Int32 :=
  (bd1 (f_X7_inSeat q1 nq1 x1 m) fun r1 => (if r1 = (-1000000 : Int32) then (some (0 : Int32))
  else (gd_ (¬ ((((6 : Int32) + ((7 : Int32) * r1)) + (6 : Int32)) < 0 ∨ nq1 ≤ ix (((6 : Int32) + ((7 : Int32) * r1)) + (6 : Int32)))) (some (m q1 (ix (((6 : Int32) + ((7 : Int32) * r1)) + (6 : Int32))))))))
def f_X7_would (q1 nq1 : Nat) (x1 : Int32) (m : Mm) : Option Int32 :=
  (nm_ (((6 : Int32) + ((7 : Int32) * x1)) : Int32) fun v1 => (gd_ (¬ ((v1 + (4 : Int32)) < 0 ∨ nq1 ≤ ix (v1 + (4 : Int32)))) (bd1 (f_X7_lastIn q1 nq1 ((m q1 (ix (v1 + (4 : Int32)))) - (1 : Int32)) m) fun r3 => (gd_ (¬ ((v1 + (4 : Int32)) < 0 ∨ nq1 ≤ ix (v1 + (4 : Int32)))) (bd1 (f_X7_lastIn q1 nq1 ((m q1 (ix (v1 + (4 : Int32)))) + (1 : Int32)) m) fun r5 => (gd_ (¬ ((v1 + (1 : Int32)) < 0 ∨ nq1 ≤ ix (v1 + (1 : Int32)))) (nm_ ((if r3 ≤ 0 then (0 : Int32)
  else (1 : Int32)) : Int32) fun j8 => (nm_ ((if r5 ≤ 0 then (0 : Int32)
  else (1 : Int32)) : Int32) fun j10 => (nm_ ((((m q1 (ix (v1 + (1 : Int32)))) + j8) + j10) : Int32) fun v11 => (gd_ (¬ ((1 : Int32) < 0 ∨ nq1 ≤ ix (1 : Int32))) (gd_ (¬ ((3 : Int32) < 0 ∨ nq1 ≤ ix (3 : Int32))) (bd1 ((if (f_X7_has (m q1 (ix (1 : Int32))) ((m q1 (ix (3 : Int32))) - (m q1 (ix (3 : Int32))) / (4 : Int32) * (4 : Int32))) = 0 then (some (0 : Int32))
  else (gd_ (¬ ((v1 + (1 : Int32)) < 0 ∨ nq1 ≤ ix (v1 + (1 : Int32)))) (some (m q1 (ix (v1 + (1 : Int32))))))) : Option Int32) fun j16 => (gd_ (¬ (v1 < 0 ∨ nq1 ≤ ix v1)) (nm_ ((m q1 (ix v1)) : Int32) fun v18 => (bd1 ((if v18 = (1 : Int32) then (some v11)
  else (if v18 = (2 : Int32) then (nm_ ((if (r3 + r5) ≤ 0 then v11
  else (f_X7_greater v11 ((1 : Int32) + (f_X7_greater r3 r5)))) : Int32) fun j20 => (some j20))
  else (if v18 = (3 : Int32) then (gd_ (¬ ((3 : Int32) < 0 ∨ nq1 ≤ ix (3 : Int32))) (nm_ ((if ((m q1 (ix (3 : Int32))) - (m q1 (ix (3 : Int32))) / (2 : Int32) * (2 : Int32)) = (1 : Int32) then (0 : Int32)
  else v11) : Int32) fun j23 => (some j23)))
  else (if v18 = (4 : Int32) then (some j16)
  else (nm_ ((j16 + (2 : Int32)) : Int32) fun v24 => (some v24)))))) : Option Int32) fun j26 => (gd_ (¬ ((v1 + (2 : Int32)) < 0 ∨ nq1 ≤ ix (v1 + (2 : Int32)))) (some (f_X7_lesser (f_X7_lesser j26 (9 : Int32)) (m q1 (ix (v1 + (2 : Int32))))))))))))))))))))))
def lb_X7_passes_7 (rec : Int32 → Int32 → Int32 → Mm → Option Mm) (q1 nq1 : Nat) (y2 : Int32) (y3 : Int32) (y4 : Int32) (m : Mm) : Option Mm :=
  (gd_ (¬ ((2 : Int32) < 0 ∨ nq1 ≤ ix (2 : Int32))) (if (m q1 (ix (2 : Int32))) ≤ y4 then (some m)
  else (gd_ (¬ ((((6 : Int32) + ((7 : Int32) * y4)) + (5 : Int32)) < 0 ∨ nq1 ≤ ix (((6 : Int32) + ((7 : Int32) * y4)) + (5 : Int32)))) (bd1 ((if (m q1 (ix (((6 : Int32) + ((7 : Int32) * y4)) + (5 : Int32)))) = (1 : Int32) then (bd1 (f_X7_would q1 nq1 y4 m) fun r5 => (some r5))
  else (some (0 : Int32))) : Option Int32) fun j6 => (gd_ (¬ (y4 < 0 ∨ 7 ≤ ix y4)) (nm_ ((st_ m 310 (ix y4) j6) : Mm) fun m7 => (nm_ ((y4 + (1 : Int32)) : Int32) fun v8 => (rec y2 y3 v8 m7))))))))
def lp_X7_passes_7 (q1 nq1 : Nat) : Nat → Int32 → Int32 → Int32 → Mm → Option Mm
  | 0, _, _, _, _ => none
  | n + 1, y2, y3, y4, m => lb_X7_passes_7 (lp_X7_passes_7 q1 nq1 n) q1 nq1 y2 y3 y4 m
def lb_X7_passes_57 (rec : Int32 → Int32 → Int32 → Mm → Option (Int32 × Int32 × Mm)) (q1 nq1 : Nat) (y2 : Int32) (y3 : Int32) (y4 : Int32) (m : Mm) : Option (Int32 × Int32 × Mm) :=
  (gd_ (¬ ((2 : Int32) < 0 ∨ nq1 ≤ ix (2 : Int32))) (if (m q1 (ix (2 : Int32))) ≤ y4 then (some (y2, y3, m))
  else (nm_ (((6 : Int32) + ((7 : Int32) * y4)) : Int32) fun v14 => (gd_ (¬ (y4 < 0 ∨ 7 ≤ ix y4)) (nm_ ((m 310 (ix y4)) : Int32) fun v16 => (gd_ (¬ ((v14 + (6 : Int32)) < 0 ∨ nq1 ≤ ix (v14 + (6 : Int32)))) (nm_ ((st_ m q1 (ix (v14 + (6 : Int32))) v16) : Mm) fun m17 => (nm_ ((v14 + (2 : Int32)) : Int32) fun v18 => (gd_ (¬ (v18 < 0 ∨ nq1 ≤ ix v18)) (gd_ (¬ (y4 < 0 ∨ 7 ≤ ix y4)) (nm_ (((m17 q1 (ix v18)) - (m17 310 (ix y4))) : Int32) fun v21 => (gd_ (¬ (v18 < 0 ∨ nq1 ≤ ix v18)) (nm_ ((st_ m17 q1 (ix v18) v21) : Mm) fun m22 => (gd_ (¬ (v14 < 0 ∨ nq1 ≤ ix v14)) (bd1 ((if (m22 q1 (ix v14)) = (5 : Int32) then (some (0 : Int32))
  else (gd_ (¬ (y4 < 0 ∨ 7 ≤ ix y4)) (some (m22 310 (ix y4))))) : Option Int32) fun j26 => (nm_ ((y2 + j26) : Int32) fun v27 => (gd_ (¬ (v14 < 0 ∨ nq1 ≤ ix v14)) (bd1 ((if (m22 q1 (ix v14)) = (5 : Int32) then (gd_ (¬ (y4 < 0 ∨ 7 ≤ ix y4)) (some (m22 310 (ix y4))))
  else (some (0 : Int32))) : Option Int32) fun j31 => (nm_ ((y3 + j31) : Int32) fun v32 => (gd_ (¬ ((5 : Int32) < 0 ∨ nq1 ≤ ix (5 : Int32))) (gd_ (¬ (v14 < 0 ∨ nq1 ≤ ix v14)) (bd1 ((if (m22 q1 (ix v14)) = (5 : Int32) then (some (0 : Int32))
  else (gd_ (¬ (y4 < 0 ∨ 7 ≤ ix y4)) (gd_ (¬ ((v14 + (3 : Int32)) < 0 ∨ nq1 ≤ ix (v14 + (3 : Int32)))) (some ((m22 310 (ix y4)) * (m22 q1 (ix (v14 + (3 : Int32))))))))) : Option Int32) fun j38 => (nm_ ((f_X7_lesser (99999 : Int32) ((m22 q1 (ix (5 : Int32))) + j38)) : Int32) fun v39 => (gd_ (¬ ((5 : Int32) < 0 ∨ nq1 ≤ ix (5 : Int32))) (nm_ ((st_ m22 q1 (ix (5 : Int32)) v39) : Mm) fun m40 => (nm_ ((y4 + (1 : Int32)) : Int32) fun v41 => (rec v27 v32 v41 m40)))))))))))))))))))))))))))
def lp_X7_passes_57 (q1 nq1 : Nat) : Nat → Int32 → Int32 → Int32 → Mm → Option (Int32 × Int32 × Mm)
  | 0, _, _, _, _ => none
  | n + 1, y2, y3, y4, m => lb_X7_passes_57 (lp_X7_passes_57 q1 nq1 n) q1 nq1 y2 y3 y4 m
def f_X7_passes (q1 nq1 : Nat) (m : Mm) : Option Mm :=
  (bd1 (lp_X7_passes_7 q1 nq1 FU (0 : Int32) (0 : Int32) (0 : Int32) m) fun m10 => (bd3 (lp_X7_passes_57 q1 nq1 FU (0 : Int32) (0 : Int32) (0 : Int32) m10) fun z45 z46 m47 => (gd_ (¬ ((4 : Int32) < 0 ∨ nq1 ≤ ix (4 : Int32))) (nm_ ((f_X7_greater (0 : Int32) ((f_X7_lesser (999 : Int32) ((m47 q1 (ix (4 : Int32))) + z45)) - z46)) : Int32) fun v50 => (gd_ (¬ ((4 : Int32) < 0 ∨ nq1 ≤ ix (4 : Int32))) (nm_ ((st_ m47 q1 (ix (4 : Int32)) v50) : Mm) fun m51 => (gd_ (¬ ((3 : Int32) < 0 ∨ nq1 ≤ ix (3 : Int32))) (nm_ (((m51 q1 (ix (3 : Int32))) + (1 : Int32)) : Int32) fun v53 => (gd_ (¬ ((3 : Int32) < 0 ∨ nq1 ≤ ix (3 : Int32))) (nm_ ((st_ m51 q1 (ix (3 : Int32)) v53) : Mm) fun m54 => (some m54)))))))))))
def f_X7_hires (q1 nq1 : Nat) (x1 : Int32) (x2 : Int32) (m : Mm) : Option Mm :=
  (gd_ (¬ ((((6 : Int32) + ((7 : Int32) * x1)) + (5 : Int32)) < 0 ∨ nq1 ≤ ix (((6 : Int32) + ((7 : Int32) * x1)) + (5 : Int32)))) (if (m q1 (ix (((6 : Int32) + ((7 : Int32) * x1)) + (5 : Int32)))) = x2 then (some m)
  else (gd_ (¬ ((((6 : Int32) + ((7 : Int32) * x1)) + (5 : Int32)) < 0 ∨ nq1 ≤ ix (((6 : Int32) + ((7 : Int32) * x1)) + (5 : Int32)))) (nm_ ((st_ m q1 (ix (((6 : Int32) + ((7 : Int32) * x1)) + (5 : Int32))) x2) : Mm) fun m3 => (gd_ (¬ ((((6 : Int32) + ((7 : Int32) * x1)) + (6 : Int32)) < 0 ∨ nq1 ≤ ix (((6 : Int32) + ((7 : Int32) * x1)) + (6 : Int32)))) (nm_ ((st_ m3 q1 (ix (((6 : Int32) + ((7 : Int32) * x1)) + (6 : Int32))) (0 : Int32)) : Mm) fun m4 => (some m4)))))))
def f_X7_changes (q1 nq1 : Nat) (x1 : Int32) (x2 : Int32) (m : Mm) : Option Mm :=
  (gd_ (¬ ((((6 : Int32) + ((7 : Int32) * x1)) + (4 : Int32)) < 0 ∨ nq1 ≤ ix (((6 : Int32) + ((7 : Int32) * x1)) + (4 : Int32)))) (nm_ ((m q1 (ix (((6 : Int32) + ((7 : Int32) * x1)) + (4 : Int32)))) : Int32) fun v2 => (gd_ (¬ ((((6 : Int32) + ((7 : Int32) * x2)) + (4 : Int32)) < 0 ∨ nq1 ≤ ix (((6 : Int32) + ((7 : Int32) * x2)) + (4 : Int32)))) (nm_ ((m q1 (ix (((6 : Int32) + ((7 : Int32) * x2)) + (4 : Int32)))) : Int32) fun v4 => (gd_ (¬ ((((6 : Int32) + ((7 : Int32) * x1)) + (4 : Int32)) < 0 ∨ nq1 ≤ ix (((6 : Int32) + ((7 : Int32) * x1)) + (4 : Int32)))) (nm_ ((st_ m q1 (ix (((6 : Int32) + ((7 : Int32) * x1)) + (4 : Int32))) v4) : Mm) fun m5 => (gd_ (¬ ((((6 : Int32) + ((7 : Int32) * x2)) + (4 : Int32)) < 0 ∨ nq1 ≤ ix (((6 : Int32) + ((7 : Int32) * x2)) + (4 : Int32)))) (nm_ ((st_ m5 q1 (ix (((6 : Int32) + ((7 : Int32) * x2)) + (4 : Int32))) v2) : Mm) fun m6 => (some m6)))))))))
def lb_X7_hired_4 (rec : Int32 → Int32 → Mm → Option Int32)  (y1 : Int32) (y2 : Int32) (m : Mm) : Option Int32 :=
  (if (m 304 (ix (2 : Int32))) ≤ y2 then (some y1)
  else (gd_ (¬ ((((6 : Int32) + ((7 : Int32) * y2)) + (5 : Int32)) < 0 ∨ 55 ≤ ix (((6 : Int32) + ((7 : Int32) * y2)) + (5 : Int32)))) (nm_ ((y1 ||| ((m 304 (ix (((6 : Int32) + ((7 : Int32) * y2)) + (5 : Int32)))) <<< (y2 &&& 31))) : Int32) fun v3 => (nm_ ((y2 + (1 : Int32)) : Int32) fun v4 => (rec v3 v4 m)))))
def lp_X7_hired_4  : Nat → Int32 → Int32 → Mm → Option Int32
  | 0, _, _, _ => none
  | n + 1, y1, y2, m => lb_X7_hired_4 (lp_X7_hired_4 n) y1 y2 m
def f_X7_hired  (m : Mm) : Option Int32 :=
  (bd1 (lp_X7_hired_4 FU (0 : Int32) (0 : Int32) m) fun z5 => (some z5))
def lb_X7_notes_11 (rec : Int32 → Mm → Option Mm)  (y1 : Int32) (m : Mm) : Option Mm :=
  (if (1265 : Int32) ≤ y1 then (some m)
  else (gd_ (¬ ((y1 + (55 : Int32)) < 0 ∨ 1320 ≤ ix (y1 + (55 : Int32)))) (nm_ ((m 307 (ix (y1 + (55 : Int32)))) : Int32) fun v4 => (gd_ (¬ (y1 < 0 ∨ 1320 ≤ ix y1)) (nm_ ((st_ m 307 (ix y1) v4) : Mm) fun m5 => (nm_ ((y1 + (1 : Int32)) : Int32) fun v6 => (rec v6 m5)))))))
def lp_X7_notes_11  : Nat → Int32 → Mm → Option Mm
  | 0, _, _ => none
  | n + 1, y1, m => lb_X7_notes_11 (lp_X7_notes_11 n) y1 m
def f_X7_notes  (m : Mm) : Option Mm :=
  (bd1 ((if (m 298 17) = (24 : Int32) then (bd1 (lp_X7_notes_11 FU (0 : Int32) m) fun m8 => (nm_ (((m8 298 17) - (1 : Int32)) : Int32) fun v10 => (nm_ ((st_ m8 298 17 v10) : Mm) fun m11 => (some m11))))
  else (some m)) : Option Mm) fun m12 => (bd1 (f_X7_copies 304 55 (0 : Int32) 307 1320 ((55 : Int32) * (m12 298 17)) m12) fun m13 => (nm_ (((m13 298 17) + (1 : Int32)) : Int32) fun v14 => (nm_ ((st_ m13 298 17 v14) : Mm) fun m15 => (some m15)))))
def lb_X7_minutes_42 (rec : Int32 → Int32 → Mm → Option Mm)  (y1 : Int32) (y2 : Int32) (m : Mm) : Option Mm :=
  (if y1 ≤ y2 then (some m)
  else (bd1 (f_X7_notes m) fun m5 => (bd1 (f_X7_passes 304 55 m5) fun m6 => (nm_ ((y2 + (1 : Int32)) : Int32) fun v7 => (rec y1 v7 m6)))))
def lp_X7_minutes_42  : Nat → Int32 → Int32 → Mm → Option Mm
  | 0, _, _, _ => none
  | n + 1, y1, y2, m => lb_X7_minutes_42 (lp_X7_minutes_42 n) y1 y2 m
def f_X7_minutes (x1 : Int32) (m : Mm) : Option (Int32 × Mm) :=
  (if (f_X7_isWedding m) = 0 then (some ((-1000002 : Int32), m))
  else (if (f_X7_in x1 (1 : Int32) (24 : Int32)) = 0 then (some ((-1000001 : Int32), m))
  else (if ((m 304 (ix (3 : Int32))) + x1) ≤ (9999 : Int32) then (bd1 (lp_X7_minutes_42 FU x1 (0 : Int32) m) fun m8 => (some ((m8 304 (ix (4 : Int32))), m8)))
  else (some ((-1000003 : Int32), m)))))
def f_X7_hire (x1 : Int32) (x2 : Int32) (m : Mm) : Option (Int32 × Mm) :=
  (bd1 (f_X7_isGuest x1 m) fun r1 => (if r1 = 0 then (some ((-1000001 : Int32), m))
  else (if (f_X7_in x2 (0 : Int32) (1 : Int32)) = 0 then (some ((-1000001 : Int32), m))
  else (gd_ (¬ ((((6 : Int32) + ((7 : Int32) * x1)) + (5 : Int32)) < 0 ∨ 55 ≤ ix (((6 : Int32) + ((7 : Int32) * x1)) + (5 : Int32)))) (if (m 304 (ix (((6 : Int32) + ((7 : Int32) * x1)) + (5 : Int32)))) = x2 then (some ((-1000002 : Int32), m))
  else (bd1 (f_X7_notes m) fun m6 => (bd1 (f_X7_hires 304 55 x1 x2 m6) fun m7 => (bd1 (f_X7_hired m7) fun r8 => (some (r8, m7))))))))))
def f_X7_swap (x1 : Int32) (x2 : Int32) (m : Mm) : Option (Int32 × Mm) :=
  (bd1 (f_X7_isGuest x1 m) fun r1 => (if r1 = 0 then (some ((-1000001 : Int32), m))
  else (bd1 (f_X7_isGuest x2 m) fun r3 => (if r3 = 0 then (some ((-1000001 : Int32), m))
  else (if x1 = x2 then (some ((-1000001 : Int32), m))
  else (bd1 (f_X7_notes m) fun m6 => (bd1 (f_X7_changes 304 55 x1 x2 m6) fun m7 => (gd_ (¬ ((((6 : Int32) + ((7 : Int32) * x1)) + (4 : Int32)) < 0 ∨ 55 ≤ ix (((6 : Int32) + ((7 : Int32) * x1)) + (4 : Int32)))) (some ((m7 304 (ix (((6 : Int32) + ((7 : Int32) * x1)) + (4 : Int32)))), m7))))))))))
def f_X7_hymns (x1 : Int32) (m : Mm) : Option (Int32 × Mm) :=
  (if (f_X7_isWedding m) = 0 then (some ((-1000002 : Int32), m))
  else (if (f_X7_in x1 (0 : Int32) (15 : Int32)) = 0 then (some ((-1000001 : Int32), m))
  else (bd1 (f_X7_notes m) fun m3 => (nm_ ((m3 304 (ix (1 : Int32))) : Int32) fun v4 => (nm_ ((st_ m3 304 (ix (1 : Int32)) x1) : Mm) fun m5 => (some (v4, m5)))))))
def f_X7_undo  (m : Mm) : Option (Int32 × Mm) :=
  (if (m 298 17) = 0 then (some ((-1000002 : Int32), m))
  else (nm_ (((m 298 17) - (1 : Int32)) : Int32) fun v2 => (nm_ ((st_ m 298 17 v2) : Mm) fun m3 => (bd1 (f_X7_copies 307 1320 ((55 : Int32) * (m3 298 17)) 304 55 (0 : Int32) m3) fun m4 => (some ((m4 298 17), m4))))))
def f_X7_guest (x1 : Int32) (x2 : Int32) (m : Mm) : Option Int32 :=
  (bd1 (f_X7_isGuest x1 m) fun r1 => (if r1 = 0 then (some (-1000001 : Int32))
  else (if (f_X7_in x2 (0 : Int32) (6 : Int32)) = 0 then (some (-1000001 : Int32))
  else (if x2 = (6 : Int32) then (bd1 (f_X7_would 304 55 x1 m) fun r6 => (some r6))
  else (gd_ (¬ (((((6 : Int32) + ((7 : Int32) * x1)) + (1 : Int32)) + x2) < 0 ∨ 55 ≤ ix ((((6 : Int32) + ((7 : Int32) * x1)) + (1 : Int32)) + x2))) (some (m 304 (ix ((((6 : Int32) + ((7 : Int32) * x1)) + (1 : Int32)) + x2)))))))))
def f_X7_seat (x1 : Int32) (m : Mm) : Option Int32 :=
  (bd1 (f_X7_isGuest x1 m) fun r1 => (if r1 = 0 then (some (-1000001 : Int32))
  else (bd1 (f_X7_inSeat 304 55 x1 m) fun r3 => (some r3))))
def lb_X7_goesOn_2 (rec : Int32 → Int32 → Mm → Option Mm)  (y1 : Int32) (y2 : Int32) (m : Mm) : Option Mm :=
  (if y1 ≤ y2 then (some m)
  else (bd1 (f_X7_passes 306 55 m) fun m2 => (nm_ ((y2 + (1 : Int32)) : Int32) fun v3 => (rec y1 v3 m2))))
def lp_X7_goesOn_2  : Nat → Int32 → Int32 → Mm → Option Mm
  | 0, _, _, _ => none
  | n + 1, y1, y2, m => lb_X7_goesOn_2 (lp_X7_goesOn_2 n) y1 y2 m
def f_X7_goesOn (x1 : Int32) (m : Mm) : Option Mm :=
  (bd1 (lp_X7_goesOn_2 FU x1 (0 : Int32) m) fun m4 => (some m4))
def f_X7_ahead (x1 : Int32) (x2 : Int32) (x3 : Int32) (m : Mm) : Option (Int32 × Mm) :=
  (bd1 (f_X7_isGuest x1 m) fun r1 => (if r1 = 0 then (some ((-1000001 : Int32), m))
  else (if (f_X7_in x2 (0 : Int32) (60 : Int32)) = 0 then (some ((-1000001 : Int32), m))
  else (if (f_X7_in x3 (0 : Int32) (1 : Int32)) = 0 then (some ((-1000001 : Int32), m))
  else (bd1 (f_X7_copies 304 55 (0 : Int32) 306 55 (0 : Int32) m) fun m5 => (bd1 (f_X7_goesOn x2 m5) fun m6 => (nm_ ((if x3 = 0 then (6 : Int32)
  else (2 : Int32)) : Int32) fun j8 => (gd_ (¬ ((((6 : Int32) + ((7 : Int32) * x1)) + j8) < 0 ∨ 55 ≤ ix (((6 : Int32) + ((7 : Int32) * x1)) + j8))) (some ((m6 306 (ix (((6 : Int32) + ((7 : Int32) * x1)) + j8))), m6))))))))))
def f_X7_bottle (x1 : Int32) (x2 : Int32) (m : Mm) : Option (Int32 × Mm) :=
  (if (f_X7_isWedding m) = 0 then (some ((-1000002 : Int32), m))
  else (if (f_X7_in x1 (0 : Int32) (60 : Int32)) = 0 then (some ((-1000001 : Int32), m))
  else (if (f_X7_in x2 (0 : Int32) (1 : Int32)) = 0 then (some ((-1000001 : Int32), m))
  else (bd1 (f_X7_copies 304 55 (0 : Int32) 306 55 (0 : Int32) m) fun m4 => (bd1 (f_X7_goesOn x1 m4) fun m5 => (nm_ ((if x2 = 0 then (4 : Int32)
  else (5 : Int32)) : Int32) fun j7 => (gd_ (¬ (j7 < 0 ∨ 55 ≤ ix j7)) (some ((m5 306 (ix j7)), m5)))))))))
def lb_X7_filled_25 (rec : Int32 → Mm → Option ((Int32 × Mm) ⊕ Mm))  (y1 : Int32) (m : Mm) : Option ((Int32 × Mm) ⊕ Mm) :=
  (if (61 : Int32) ≤ y1 then (some (.inr m))
  else (if (m 306 (ix (4 : Int32))) < (m 306 (ix (0 : Int32))) then (bd1 (f_X7_passes 306 55 m) fun m5 => (nm_ ((y1 + (1 : Int32)) : Int32) fun v6 => (rec v6 m5)))
  else (some (.inl (y1, m)))))
def lp_X7_filled_25  : Nat → Int32 → Mm → Option ((Int32 × Mm) ⊕ Mm)
  | 0, _, _ => none
  | n + 1, y1, m => lb_X7_filled_25 (lp_X7_filled_25 n) y1 m
def f_X7_filled  (m : Mm) : Option (Int32 × Mm) :=
  (if (f_X7_isWedding m) = 0 then (some ((-1000002 : Int32), m))
  else (bd1 (f_X7_copies 304 55 (0 : Int32) 306 55 (0 : Int32) m) fun m2 => (bdS1 (lp_X7_filled_25 FU (0 : Int32) m2) fun m7 => (some ((-1000000 : Int32), m7)))))
def lb_X7_dry_45 (rec : Int32 → Int32 → Int32 → Mm → Option ((Int32 × Mm) ⊕ Int32))  (y1 : Int32) (y2 : Int32) (y3 : Int32) (m : Mm) : Option ((Int32 × Mm) ⊕ Int32) :=
  (if (m 304 (ix (2 : Int32))) ≤ y3 then (some (.inr (0 : Int32)))
  else (gd_ (¬ ((((6 : Int32) + ((7 : Int32) * y3)) + (5 : Int32)) < 0 ∨ 55 ≤ ix (((6 : Int32) + ((7 : Int32) * y3)) + (5 : Int32)))) (if (m 306 (ix (((6 : Int32) + ((7 : Int32) * y3)) + (5 : Int32)))) = (1 : Int32) then (gd_ (¬ ((((6 : Int32) + ((7 : Int32) * y3)) + (2 : Int32)) < 0 ∨ 55 ≤ ix (((6 : Int32) + ((7 : Int32) * y3)) + (2 : Int32)))) (if (m 306 (ix (((6 : Int32) + ((7 : Int32) * y3)) + (2 : Int32)))) = 0 then (if y1 = 0 then (some (.inl (y3, m)))
  else (some (.inl (y2, m))))
  else (nm_ ((y3 + (1 : Int32)) : Int32) fun v11 => (rec y1 y2 v11 m))))
  else (nm_ ((y3 + (1 : Int32)) : Int32) fun v8 => (rec y1 y2 v8 m)))))
def lp_X7_dry_45  : Nat → Int32 → Int32 → Int32 → Mm → Option ((Int32 × Mm) ⊕ Int32)
  | 0, _, _, _, _ => none
  | n + 1, y1, y2, y3, m => lb_X7_dry_45 (lp_X7_dry_45 n) y1 y2 y3 m
def lb_X7_dry_37 (rec : Int32 → Int32 → Mm → Option ((Int32 × Mm) ⊕ Mm))  (y1 : Int32) (y2 : Int32) (m : Mm) : Option ((Int32 × Mm) ⊕ Mm) :=
  (if (61 : Int32) ≤ y2 then (some (.inr m))
  else (bdT1 (lp_X7_dry_45 FU y1 y2 (0 : Int32) m) fun z13 => (bd1 (f_X7_passes 306 55 m) fun m15 => (nm_ ((y2 + (1 : Int32)) : Int32) fun v16 => (rec y1 v16 m15)))))
def lp_X7_dry_37  : Nat → Int32 → Int32 → Mm → Option ((Int32 × Mm) ⊕ Mm)
  | 0, _, _, _ => none
  | n + 1, y1, y2, m => lb_X7_dry_37 (lp_X7_dry_37 n) y1 y2 m
def f_X7_dry (x1 : Int32) (m : Mm) : Option (Int32 × Mm) :=
  (if (f_X7_isWedding m) = 0 then (some ((-1000002 : Int32), m))
  else (if (f_X7_in x1 (0 : Int32) (1 : Int32)) = 0 then (some ((-1000001 : Int32), m))
  else (bd1 (f_X7_copies 304 55 (0 : Int32) 306 55 (0 : Int32) m) fun m3 => (bdS1 (lp_X7_dry_37 FU x1 (0 : Int32) m3) fun m17 => (some ((-1000000 : Int32), m17))))))
def lb_X7_triesBy_15 (rec : Int32 → Int32 → Mm → Option Mm)  (y1 : Int32) (y2 : Int32) (m : Mm) : Option Mm :=
  (if (m 304 (ix (2 : Int32))) ≤ y2 then (some m)
  else (bd1 (f_X7_hires 306 55 y2 ((y1 >>> (y2 &&& 31)) &&& (1 : Int32)) m) fun m3 => (nm_ ((y2 + (1 : Int32)) : Int32) fun v4 => (rec y1 v4 m3))))
def lp_X7_triesBy_15  : Nat → Int32 → Int32 → Mm → Option Mm
  | 0, _, _, _ => none
  | n + 1, y1, y2, m => lb_X7_triesBy_15 (lp_X7_triesBy_15 n) y1 y2 m
def f_X7_triesBy (x1 : Int32) (m : Mm) : Option Mm :=
  (bd1 (f_X7_copies 304 55 (0 : Int32) 306 55 (0 : Int32) m) fun m1 => (bd1 (lp_X7_triesBy_15 FU x1 (0 : Int32) m1) fun m5 => (some m5)))
def lb_X7_hiring_41 (rec : Int32 → Int32 → Int32 → Int32 → Int32 → Mm → Option (Int32 × Int32 × Mm))  (y1 : Int32) (y2 : Int32) (y3 : Int32) (y4 : Int32) (y5 : Int32) (m : Mm) : Option (Int32 × Int32 × Mm) :=
  (if ((1 : Int32) <<< ((m 304 (ix (2 : Int32))) &&& 31)) ≤ y5 then (some (y3, y4, m))
  else (bd1 (f_X7_triesBy y5 m) fun m5 => (bd1 (f_X7_goesOn y1 m5) fun m6 => (bd1 ((if y3 = (-1000000 : Int32) then (some (1 : Int32))
  else (if (m6 306 (ix (5 : Int32))) < y4 then (some (1 : Int32))
  else (if (m6 306 (ix (5 : Int32))) = y4 then (bd1 (f_X7_ones y5) fun r10 => (bd1 (f_X7_ones y3) fun r11 => (if r11 ≤ r10 then (some (0 : Int32))
  else (some (1 : Int32)))))
  else (some (0 : Int32))))) : Option Int32) fun j13 => (bd2 ((if (m6 306 (ix (4 : Int32))) < (m6 306 (ix (0 : Int32))) then (some (y3, y4))
  else (if j13 = 0 then (some (y3, y4))
  else (nm_ ((m6 306 (ix (5 : Int32))) : Int32) fun v16 => (some (y5, v16))))) : Option (Int32 × Int32)) fun j17 j18 => (nm_ ((y5 + (1 : Int32)) : Int32) fun v19 => (rec y1 y2 j17 j18 v19 m6)))))))
def lp_X7_hiring_41  : Nat → Int32 → Int32 → Int32 → Int32 → Int32 → Mm → Option (Int32 × Int32 × Mm)
  | 0, _, _, _, _, _, _ => none
  | n + 1, y1, y2, y3, y4, y5, m => lb_X7_hiring_41 (lp_X7_hiring_41 n) y1 y2 y3 y4 y5 m
def f_X7_hiring (x1 : Int32) (x2 : Int32) (m : Mm) : Option (Int32 × Mm) :=
  (if (f_X7_isWedding m) = 0 then (some ((-1000002 : Int32), m))
  else (if (f_X7_in x1 (1 : Int32) (30 : Int32)) = 0 then (some ((-1000001 : Int32), m))
  else (if (f_X7_in x2 (0 : Int32) (1 : Int32)) = 0 then (some ((-1000001 : Int32), m))
  else (bd3 (lp_X7_hiring_41 FU x1 x2 (-1000000 : Int32) (0 : Int32) (0 : Int32) m) fun z20 z21 m22 => (if z20 = (-1000000 : Int32) then (some (z20, m22))
  else (if x2 = 0 then (some (z20, m22))
  else (some (z21, m22))))))))
def f_X7_trades (x1 : Int32) (x2 : Int32) (m : Mm) : Option Mm :=
  (gd_ (¬ (x1 < 0 ∨ 7 ≤ ix x1)) (nm_ ((m 311 (ix x1)) : Int32) fun v2 => (gd_ (¬ (x2 < 0 ∨ 7 ≤ ix x2)) (nm_ ((m 311 (ix x2)) : Int32) fun v4 => (gd_ (¬ (x1 < 0 ∨ 7 ≤ ix x1)) (nm_ ((st_ m 311 (ix x1) v4) : Mm) fun m5 => (gd_ (¬ (x2 < 0 ∨ 7 ≤ ix x2)) (nm_ ((st_ m5 311 (ix x2) v2) : Mm) fun m6 => (some m6)))))))))
def lb_X7_orders_9 (rec : Int32 → Mm → Option Int32)  (y1 : Int32) (m : Mm) : Option Int32 :=
  (if y1 < 0 then (some y1)
  else (gd_ (¬ (y1 < 0 ∨ 7 ≤ ix y1)) (gd_ (¬ ((y1 + (1 : Int32)) < 0 ∨ 7 ≤ ix (y1 + (1 : Int32)))) (if (m 311 (ix y1)) ≤ (m 311 (ix (y1 + (1 : Int32)))) then (some y1)
  else (nm_ ((y1 + (-1 : Int32)) : Int32) fun v6 => (rec v6 m))))))
def lp_X7_orders_9  : Nat → Int32 → Mm → Option Int32
  | 0, _, _ => none
  | n + 1, y1, m => lb_X7_orders_9 (lp_X7_orders_9 n) y1 m
def lb_X7_orders_51 (rec : Int32 → Int32 → Mm → Option Int32)  (y1 : Int32) (y2 : Int32) (m : Mm) : Option Int32 :=
  (gd_ (¬ (y2 < 0 ∨ 7 ≤ ix y2)) (gd_ (¬ (y1 < 0 ∨ 7 ≤ ix y1)) (if (m 311 (ix y1)) ≤ (m 311 (ix y2)) then (some y2)
  else (nm_ ((y2 + (-1 : Int32)) : Int32) fun v14 => (rec y1 v14 m)))))
def lp_X7_orders_51  : Nat → Int32 → Int32 → Mm → Option Int32
  | 0, _, _, _ => none
  | n + 1, y1, y2, m => lb_X7_orders_51 (lp_X7_orders_51 n) y1 y2 m
def lb_X7_orders_92 (rec : Int32 → Int32 → Mm → Option Mm)  (y3 : Int32) (y4 : Int32) (m : Mm) : Option Mm :=
  (if y4 ≤ y3 then (some m)
  else (bd1 (f_X7_trades y3 y4 m) fun m21 => (nm_ ((y3 + (1 : Int32)) : Int32) fun v22 => (nm_ ((y4 + (-1 : Int32)) : Int32) fun v23 => (rec v22 v23 m21)))))
def lp_X7_orders_92  : Nat → Int32 → Int32 → Mm → Option Mm
  | 0, _, _, _ => none
  | n + 1, y3, y4, m => lb_X7_orders_92 (lp_X7_orders_92 n) y3 y4 m
def f_X7_orders  (m : Mm) : Option (Int32 × Mm) :=
  (nm_ (((m 304 (ix (2 : Int32))) - (2 : Int32)) : Int32) fun v1 => (bd1 (lp_X7_orders_9 FU v1 m) fun z7 => (if 0 ≤ z7 then (nm_ (((m 304 (ix (2 : Int32))) - (1 : Int32)) : Int32) fun v10 => (bd1 (lp_X7_orders_51 FU z7 v10 m) fun z15 => (bd1 (f_X7_trades z7 z15 m) fun m17 => (nm_ ((z7 + (1 : Int32)) : Int32) fun v18 => (nm_ (((m17 304 (ix (2 : Int32))) - (1 : Int32)) : Int32) fun v19 => (bd1 (lp_X7_orders_92 FU v18 v19 m17) fun m24 => (some ((1 : Int32), m24))))))))
  else (some ((0 : Int32), m)))))
def lb_X7_order_34 (rec : Int32 → Int32 → Int32 → Mm → Option Mm)  (y1 : Int32) (y2 : Int32) (y3 : Int32) (m : Mm) : Option Mm :=
  (if (7 : Int32) ≤ y3 then (some m)
  else (gd_ (¬ (y3 < 0 ∨ 7 ≤ ix y3)) (nm_ ((st_ m 311 (ix y3) y3) : Mm) fun m5 => (nm_ ((y3 + (1 : Int32)) : Int32) fun v6 => (rec y1 y2 v6 m5)))))
def lp_X7_order_34  : Nat → Int32 → Int32 → Int32 → Mm → Option Mm
  | 0, _, _, _, _ => none
  | n + 1, y1, y2, y3, m => lb_X7_order_34 (lp_X7_order_34 n) y1 y2 y3 m
def lb_X7_order_85 (rec : Int32 → Int32 → Int32 → Int32 → Int32 → Int32 → Mm → Option (Int32 × Mm))  (y1 : Int32) (y2 : Int32) (y3 : Int32) (y4 : Int32) (y6 : Int32) (y7 : Int32) (m : Mm) : Option (Int32 × Mm) :=
  (if (m 304 (ix (2 : Int32))) ≤ y7 then (some (y6, m))
  else (gd_ (¬ (y7 < 0 ∨ 7 ≤ ix y7)) (gd_ (¬ ((((6 : Int32) + ((7 : Int32) * (m 311 (ix y7)))) + (4 : Int32)) < 0 ∨ 55 ≤ ix (((6 : Int32) + ((7 : Int32) * (m 311 (ix y7)))) + (4 : Int32)))) (nm_ ((st_ m 306 (ix (((6 : Int32) + ((7 : Int32) * (m 311 (ix y7)))) + (4 : Int32))) y7) : Mm) fun m14 => (gd_ (¬ (y7 < 0 ∨ 7 ≤ ix y7)) (nm_ ((((10 : Int32) * y6) + (m14 311 (ix y7))) : Int32) fun v16 => (nm_ ((y7 + (1 : Int32)) : Int32) fun v17 => (rec y1 y2 y3 y4 v16 v17 m14))))))))
def lp_X7_order_85  : Nat → Int32 → Int32 → Int32 → Int32 → Int32 → Int32 → Mm → Option (Int32 × Mm)
  | 0, _, _, _, _, _, _, _ => none
  | n + 1, y1, y2, y3, y4, y6, y7, m => lb_X7_order_85 (lp_X7_order_85 n) y1 y2 y3 y4 y6 y7 m
def lb_X7_order_61 (rec : Int32 → Int32 → Int32 → Int32 → Int32 → Mm → Option (Int32 × Int32 × Mm))  (y1 : Int32) (y2 : Int32) (y3 : Int32) (y4 : Int32) (y5 : Int32) (m : Mm) : Option (Int32 × Int32 × Mm) :=
  (if y5 = 0 then (some (y3, y4, m))
  else (bd1 (f_X7_copies 304 55 (0 : Int32) 306 55 (0 : Int32) m) fun m11 => (bd2 (lp_X7_order_85 FU y1 y2 y3 y4 (0 : Int32) (0 : Int32) m11) fun z19 m20 => (bd1 (f_X7_goesOn y1 m20) fun m22 => (nm_ ((if (m22 306 (ix (4 : Int32))) ≤ y4 then y3
  else z19) : Int32) fun j24 => (nm_ ((f_X7_greater (m22 306 (ix (4 : Int32))) y4) : Int32) fun v25 => (bd2 (f_X7_orders m22) fun r27 m26 => (rec y1 y2 j24 v25 r27 m26))))))))
def lp_X7_order_61  : Nat → Int32 → Int32 → Int32 → Int32 → Int32 → Mm → Option (Int32 × Int32 × Mm)
  | 0, _, _, _, _, _, _ => none
  | n + 1, y1, y2, y3, y4, y5, m => lb_X7_order_61 (lp_X7_order_61 n) y1 y2 y3 y4 y5 m
def f_X7_order (x1 : Int32) (x2 : Int32) (m : Mm) : Option (Int32 × Mm) :=
  (if (f_X7_isWedding m) = 0 then (some ((-1000002 : Int32), m))
  else (if (f_X7_in x1 (1 : Int32) (10 : Int32)) = 0 then (some ((-1000001 : Int32), m))
  else (if (f_X7_in x2 (0 : Int32) (1 : Int32)) = 0 then (some ((-1000001 : Int32), m))
  else (bd1 (lp_X7_order_34 FU x1 x2 (0 : Int32) m) fun m8 => (bd3 (lp_X7_order_61 FU x1 x2 (0 : Int32) (-1 : Int32) (1 : Int32) m8) fun z28 z29 m30 => (if x2 = 0 then (some (z28, m30))
  else (some (z29, m30))))))))
def lb_X7_change_59 (rec : Int32 → Int32 → Int32 → Int32 → Int32 → Int32 → Mm → Option (Int32 × Int32 × Mm))  (y1 : Int32) (y2 : Int32) (y3 : Int32) (y4 : Int32) (y5 : Int32) (y6 : Int32) (m : Mm) : Option (Int32 × Int32 × Mm) :=
  (if (m 304 (ix (2 : Int32))) ≤ y6 then (some (y3, y4, m))
  else (bd1 (f_X7_copies 304 55 (0 : Int32) 306 55 (0 : Int32) m) fun m7 => (bd1 (f_X7_changes 306 55 y5 y6 m7) fun m8 => (bd1 (f_X7_goesOn y1 m8) fun m9 => (nm_ ((if (m9 306 (ix (4 : Int32))) ≤ y4 then y3
  else (((10 : Int32) * y5) + y6)) : Int32) fun j11 => (nm_ ((f_X7_greater (m9 306 (ix (4 : Int32))) y4) : Int32) fun v12 => (nm_ ((y6 + (1 : Int32)) : Int32) fun v13 => (rec y1 y2 j11 v12 y5 v13 m9))))))))
def lp_X7_change_59  : Nat → Int32 → Int32 → Int32 → Int32 → Int32 → Int32 → Mm → Option (Int32 × Int32 × Mm)
  | 0, _, _, _, _, _, _, _ => none
  | n + 1, y1, y2, y3, y4, y5, y6, m => lb_X7_change_59 (lp_X7_change_59 n) y1 y2 y3 y4 y5 y6 m
def lb_X7_change_42 (rec : Int32 → Int32 → Int32 → Int32 → Int32 → Mm → Option (Int32 × Int32 × Mm))  (y1 : Int32) (y2 : Int32) (y3 : Int32) (y4 : Int32) (y5 : Int32) (m : Mm) : Option (Int32 × Int32 × Mm) :=
  (if (m 304 (ix (2 : Int32))) ≤ y5 then (some (y3, y4, m))
  else (nm_ ((y5 + (1 : Int32)) : Int32) fun v5 => (bd3 (lp_X7_change_59 FU y1 y2 y3 y4 y5 v5 m) fun z14 z15 m16 => (nm_ ((y5 + (1 : Int32)) : Int32) fun v18 => (rec y1 y2 z14 z15 v18 m16)))))
def lp_X7_change_42  : Nat → Int32 → Int32 → Int32 → Int32 → Int32 → Mm → Option (Int32 × Int32 × Mm)
  | 0, _, _, _, _, _, _ => none
  | n + 1, y1, y2, y3, y4, y5, m => lb_X7_change_42 (lp_X7_change_42 n) y1 y2 y3 y4 y5 m
def f_X7_change (x1 : Int32) (x2 : Int32) (m : Mm) : Option (Int32 × Mm) :=
  (if (f_X7_isWedding m) = 0 then (some ((-1000002 : Int32), m))
  else (if (f_X7_in x1 (1 : Int32) (30 : Int32)) = 0 then (some ((-1000001 : Int32), m))
  else (if (f_X7_in x2 (0 : Int32) (1 : Int32)) = 0 then (some ((-1000001 : Int32), m))
  else (bd3 (lp_X7_change_42 FU x1 x2 (-1000000 : Int32) (-1000000 : Int32) (0 : Int32) m) fun z19 z20 m21 => (if x2 = 0 then (some (z19, m21))
  else (some (z20, m21)))))))
def lb_X7_shedsSo_28 (rec : Int32 → Int32 → Int32 → Int32 → Int32 → Mm → Option (Int32 × Mm))  (y1 : Int32) (y2 : Int32) (y3 : Int32) (y6 : Int32) (y7 : Int32) (m : Mm) : Option (Int32 × Mm) :=
  (if y3 ≤ y7 then (some (y6, m))
  else (bd1 (f_X7_passes 306 55 m) fun m4 => (bd1 ((if y6 = 0 then (some (0 : Int32))
  else (gd_ (¬ ((((6 : Int32) + ((7 : Int32) * y1)) + (6 : Int32)) < 0 ∨ 55 ≤ ix (((6 : Int32) + ((7 : Int32) * y1)) + (6 : Int32)))) (gd_ (¬ ((y2 + y7) < 0 ∨ 320 ≤ ix (y2 + y7))) (if (m4 306 (ix (((6 : Int32) + ((7 : Int32) * y1)) + (6 : Int32)))) = (m4 301 (ix (y2 + y7))) then (some (1 : Int32))
  else (some (0 : Int32)))))) : Option Int32) fun j9 => (nm_ ((y7 + (1 : Int32)) : Int32) fun v10 => (rec y1 y2 y3 j9 v10 m4)))))
def lp_X7_shedsSo_28  : Nat → Int32 → Int32 → Int32 → Int32 → Int32 → Mm → Option (Int32 × Mm)
  | 0, _, _, _, _, _, _ => none
  | n + 1, y1, y2, y3, y6, y7, m => lb_X7_shedsSo_28 (lp_X7_shedsSo_28 n) y1 y2 y3 y6 y7 m
def f_X7_shedsSo (x1 : Int32) (x2 : Int32) (x3 : Int32) (x4 : Int32) (x5 : Int32) (m : Mm) : Option (Int32 × Mm) :=
  (bd1 (f_X7_copies 304 55 (0 : Int32) 306 55 (0 : Int32) m) fun m1 => (gd_ (¬ (x4 < 0 ∨ 55 ≤ ix x4)) (nm_ ((st_ m1 306 (ix x4) x5) : Mm) fun m2 => (bd2 (lp_X7_shedsSo_28 FU x1 x2 x3 (1 : Int32) (0 : Int32) m2) fun z11 m12 => (gd_ ((z11 = 0 ∨ z11 = 1)) (some (z11, m12)))))))
def lb_X7_fits_205 (rec : Int32 → Int32 → Int32 → Int32 → Int32 → Int32 → Int32 → Int32 → Mm → Option (Int32 × Int32 × Mm))  (y1 : Int32) (y4 : Int32) (y5 : Int32) (y6 : Int32) (y7 : Int32) (y9 : Int32) (y10 : Int32) (y11 : Int32) (m : Mm) : Option (Int32 × Int32 × Mm) :=
  (if y11 < 0 then (some (y9, y10, m))
  else (bd2 (f_X7_shedsSo y1 y6 y4 (y7 + (2 : Int32)) y11 m) fun r16 m15 => (nm_ ((if r16 = 0 then (0 : Int32)
  else (1 : Int32)) : Int32) fun j18 => (nm_ ((y9 + j18) : Int32) fun v19 => (nm_ ((if r16 = 0 then y10
  else y11) : Int32) fun j21 => (nm_ ((y11 + (-1 : Int32)) : Int32) fun v22 => (rec y1 y4 y5 y6 y7 v19 j21 v22 m15)))))))
def lp_X7_fits_205  : Nat → Int32 → Int32 → Int32 → Int32 → Int32 → Int32 → Int32 → Int32 → Mm → Option (Int32 × Int32 × Mm)
  | 0, _, _, _, _, _, _, _, _, _ => none
  | n + 1, y1, y4, y5, y6, y7, y9, y10, y11, m => lb_X7_fits_205 (lp_X7_fits_205 n) y1 y4 y5 y6 y7 y9 y10 y11 m
def lb_X7_fits_139 (rec : Int32 → Int32 → Int32 → Int32 → Int32 → Int32 → Int32 → Int32 → Mm → Option (Int32 × Mm))  (y1 : Int32) (y4 : Int32) (y5 : Int32) (y6 : Int32) (y7 : Int32) (y8 : Int32) (y11 : Int32) (y12 : Int32) (m : Mm) : Option (Int32 × Mm) :=
  (if y11 < y12 then (some (y8, m))
  else (nm_ ((if y5 = (2 : Int32) then (1 : Int32)
  else (y7 + y5)) : Int32) fun j38 => (bd2 (f_X7_shedsSo y1 y6 y4 j38 y12 m) fun r40 m39 => (nm_ ((if r40 = 0 then (0 : Int32)
  else ((1 : Int32) <<< (y12 &&& 31))) : Int32) fun j42 => (nm_ ((y8 ||| j42) : Int32) fun v43 => (nm_ ((y12 + (1 : Int32)) : Int32) fun v44 => (rec y1 y4 y5 y6 y7 v43 y11 v44 m39)))))))
def lp_X7_fits_139  : Nat → Int32 → Int32 → Int32 → Int32 → Int32 → Int32 → Int32 → Int32 → Mm → Option (Int32 × Mm)
  | 0, _, _, _, _, _, _, _, _, _ => none
  | n + 1, y1, y4, y5, y6, y7, y8, y11, y12, m => lb_X7_fits_139 (lp_X7_fits_139 n) y1 y4 y5 y6 y7 y8 y11 y12 m
def f_X7_fits (x1 : Int32) (x2 : Int32) (x3 : Int32) (x4 : Int32) (x5 : Int32) (m : Mm) : Option (Int32 × Mm) :=
  (bd1 (f_X7_isGuest x1 m) fun r1 => (if r1 = 0 then (some ((-1000001 : Int32), m))
  else (bd1 (f_X7_isRow x2) fun r3 => (if r3 = 0 then (some ((-1000001 : Int32), m))
  else (if (f_X7_in x4 (1 : Int32) (12 : Int32)) = 0 then (some ((-1000001 : Int32), m))
  else (if (f_X7_in x5 (0 : Int32) (4 : Int32)) = 0 then (some ((-1000001 : Int32), m))
  else (bd1 (f_X7_isMissing x2 m) fun r7 => (if r7 = 0 then (bd1 (f_X7_isPart x2 x3 x4 m) fun r9 => (if r9 = 0 then (bd2 (f_X7_found (2 : Int32) m) fun r51 m50 => (some (r51, m50)))
  else (nm_ ((((40 : Int32) * x2) + x3) : Int32) fun v11 => (nm_ (((6 : Int32) + ((7 : Int32) * x1)) : Int32) fun v12 => (if (3 : Int32) ≤ x5 then (bd3 (lp_X7_fits_205 FU x1 x4 x5 v11 v12 (0 : Int32) (-1000000 : Int32) (99 : Int32) m) fun z23 z24 m25 => (nm_ ((if x5 = (3 : Int32) then z23
  else z24) : Int32) fun j28 => (bd2 (f_X7_well j28 m25) fun r30 m29 => (some (r30, m29)))))
  else (nm_ ((if x5 = 0 then (5 : Int32)
  else (if x5 = (1 : Int32) then (9 : Int32)
  else (15 : Int32))) : Int32) fun j33 => (nm_ ((if x5 = 0 then (1 : Int32)
  else (0 : Int32)) : Int32) fun j35 => (bd2 (lp_X7_fits_139 FU x1 x4 x5 v11 v12 (0 : Int32) j33 j35 m) fun z45 m46 => (bd2 (f_X7_well z45 m46) fun r49 m48 => (some (r49, m48)))))))))))
  else (bd2 (f_X7_found (1 : Int32) m) fun r53 m52 => (some (r53, m52)))))))))))
def lb_X7_away_57 (rec : Int32 → Int32 → Int32 → Int32 → Int32 → Int32 → Int32 → Mm → Option Int32)  (y1 : Int32) (y2 : Int32) (y3 : Int32) (y4 : Int32) (y5 : Int32) (y6 : Int32) (y7 : Int32) (m : Mm) : Option Int32 :=
  (bd1 (f_X7_ones y4) fun r6 => (if r6 ≤ y7 then (some y6)
  else (nm_ ((y6 * (10 : Int32)) : Int32) fun v8 => (nm_ ((y7 + (1 : Int32)) : Int32) fun v9 => (rec y1 y2 y3 y4 y5 v8 v9 m)))))
def lp_X7_away_57  : Nat → Int32 → Int32 → Int32 → Int32 → Int32 → Int32 → Int32 → Mm → Option Int32
  | 0, _, _, _, _, _, _, _, _ => none
  | n + 1, y1, y2, y3, y4, y5, y6, y7, m => lb_X7_away_57 (lp_X7_away_57 n) y1 y2 y3 y4 y5 y6 y7 m
def lb_X7_away_106 (rec : Int32 → Int32 → Int32 → Int32 → Int32 → Int32 → Int32 → Int32 → Int32 → Mm → Option Int32)  (y1 : Int32) (y2 : Int32) (y3 : Int32) (y4 : Int32) (y5 : Int32) (y6 : Int32) (y7 : Int32) (y8 : Int32) (y9 : Int32) (m : Mm) : Option Int32 :=
  (if (m 304 (ix (2 : Int32))) ≤ y9 then (some y8)
  else (nm_ ((if (f_X7_has y4 y9) = 0 then (1 : Int32)
  else (if (f_X7_has y7 y9) = 0 then ((10 : Int32) - y2)
  else y2)) : Int32) fun j17 => (nm_ ((y8 * j17) : Int32) fun v18 => (nm_ ((y9 + (1 : Int32)) : Int32) fun v19 => (rec y1 y2 y3 y4 y5 y6 y7 v18 v19 m)))))
def lp_X7_away_106  : Nat → Int32 → Int32 → Int32 → Int32 → Int32 → Int32 → Int32 → Int32 → Int32 → Mm → Option Int32
  | 0, _, _, _, _, _, _, _, _, _, _ => none
  | n + 1, y1, y2, y3, y4, y5, y6, y7, y8, y9, m => lb_X7_away_106 (lp_X7_away_106 n) y1 y2 y3 y4 y5 y6 y7 y8 y9 m
def lb_X7_away_83 (rec : Int32 → Int32 → Int32 → Int32 → Int32 → Int32 → Int32 → Mm → Option (Int32 × Mm))  (y1 : Int32) (y2 : Int32) (y3 : Int32) (y4 : Int32) (y5 : Int32) (y6 : Int32) (y7 : Int32) (m : Mm) : Option (Int32 × Mm) :=
  (if y4 < y7 then (some (y5, m))
  else (bd2 ((if (y7 &&& (y4 ^^^ (-1 : Int32))) = 0 then (bd1 (lp_X7_away_106 FU y1 y2 y3 y4 y5 y6 y7 (1 : Int32) (0 : Int32) m) fun z20 => (bd1 (f_X7_triesBy (y4 &&& (y7 ^^^ (-1 : Int32))) m) fun m22 => (bd1 (f_X7_goesOn y1 m22) fun m23 => (nm_ ((if (m23 306 (ix (4 : Int32))) < (m23 306 (ix (0 : Int32))) then (0 : Int32)
  else z20) : Int32) fun j25 => (nm_ ((y5 + j25) : Int32) fun v26 => (some (v26, m23)))))))
  else (some (y5, m))) : Option (Int32 × Mm)) fun j27 m28 => (nm_ ((y7 + (1 : Int32)) : Int32) fun v29 => (rec y1 y2 y3 y4 j27 y6 v29 m28))))
def lp_X7_away_83  : Nat → Int32 → Int32 → Int32 → Int32 → Int32 → Int32 → Int32 → Mm → Option (Int32 × Mm)
  | 0, _, _, _, _, _, _, _, _ => none
  | n + 1, y1, y2, y3, y4, y5, y6, y7, m => lb_X7_away_83 (lp_X7_away_83 n) y1 y2 y3 y4 y5 y6 y7 m
def lb_X7_away_216 (rec : Int32 → Int32 → Int32 → Int32 → Int32 → Mm → Option Int32)  (y3 : Int32) (y5 : Int32) (y6 : Int32) (y7 : Int32) (y8 : Int32) (m : Mm) : Option Int32 :=
  (if y8 = 0 then (some y7)
  else (gd_ (¬ y8 = 0) (nm_ ((y7 - y7 / y8 * y8) : Int32) fun v35 => (rec y3 y5 y6 y8 v35 m))))
def lp_X7_away_216  : Nat → Int32 → Int32 → Int32 → Int32 → Int32 → Mm → Option Int32
  | 0, _, _, _, _, _, _ => none
  | n + 1, y3, y5, y6, y7, y8, m => lb_X7_away_216 (lp_X7_away_216 n) y3 y5 y6 y7 y8 m
def f_X7_away (x1 : Int32) (x2 : Int32) (x3 : Int32) (m : Mm) : Option (Int32 × Mm) :=
  (if (f_X7_isWedding m) = 0 then (some ((-1000002 : Int32), m))
  else (if (f_X7_in x1 (0 : Int32) (30 : Int32)) = 0 then (some ((-1000001 : Int32), m))
  else (if (f_X7_in x2 (0 : Int32) (10 : Int32)) = 0 then (some ((-1000001 : Int32), m))
  else (if (f_X7_in x3 (0 : Int32) (1 : Int32)) = 0 then (some ((-1000001 : Int32), m))
  else (bd1 (f_X7_hired m) fun r5 => (bd1 (lp_X7_away_57 FU x1 x2 x3 r5 (0 : Int32) (1 : Int32) (0 : Int32) m) fun z10 => (bd2 (lp_X7_away_83 FU x1 x2 x3 r5 (0 : Int32) z10 (0 : Int32) m) fun z30 m31 => (bd1 (lp_X7_away_216 FU x3 z30 z10 z30 z10 m31) fun z36 => (nm_ ((if x3 = 0 then z30
  else z10) : Int32) fun j39 => (gd_ (¬ z36 = 0) (some ((j39 / z36), m31))))))))))))
def lb_X7_drawn_62 (rec : Int32 → Int32 → Int64 → Int32 → Mm → Option Mm)  (y1 : Int32) (y3 : Int32) (y4 : Int64) (y6 : Int32) (m : Mm) : Option Mm :=
  (if y1 ≤ y6 then (some m)
  else (nm_ (((y4 * (16807 : Int64)) - (y4 * (16807 : Int64)) / (2147483647 : Int64) * (2147483647 : Int64)) : Int64) fun v8 => (gd_ (¬ ((m 304 (ix (2 : Int32)))).toInt64 = 0) (nm_ (((v8 - v8 / ((m 304 (ix (2 : Int32)))).toInt64 * ((m 304 (ix (2 : Int32)))).toInt64)).toInt32 : Int32) fun v10 => (gd_ (¬ ((((6 : Int32) + ((7 : Int32) * v10)) + (5 : Int32)) < 0 ∨ 55 ≤ ix (((6 : Int32) + ((7 : Int32) * v10)) + (5 : Int32)))) (bd1 (f_X7_hires 306 55 v10 ((1 : Int32) - (m 306 (ix (((6 : Int32) + ((7 : Int32) * v10)) + (5 : Int32))))) m) fun m12 => (nm_ (((v8 - v8 / (7 : Int64) * (7 : Int64))).toInt32 : Int32) fun v13 => (bd1 ((if (m12 304 (ix (2 : Int32))) ≤ (v13 + (1 : Int32)) then (some m12)
  else (bd1 (f_X7_inSeat 306 55 v13 m12) fun r15 => (bd1 (f_X7_inSeat 306 55 (v13 + (1 : Int32)) m12) fun r16 => (bd1 (f_X7_changes 306 55 r15 r16 m12) fun m17 => (some m17))))) : Option Mm) fun m18 => (bd1 (f_X7_passes 306 55 m18) fun m19 => (nm_ ((y6 + (1 : Int32)) : Int32) fun v20 => (rec y1 y3 v8 v20 m19)))))))))))
def lp_X7_drawn_62  : Nat → Int32 → Int32 → Int64 → Int32 → Mm → Option Mm
  | 0, _, _, _, _, _ => none
  | n + 1, y1, y3, y4, y6, m => lb_X7_drawn_62 (lp_X7_drawn_62 n) y1 y3 y4 y6 m
def f_X7_drawn (x1 : Int32) (x2 : Int32) (x3 : Int32) (m : Mm) : Option (Int32 × Mm) :=
  (if (f_X7_isWedding m) = 0 then (some ((-1000002 : Int32), m))
  else (if (f_X7_in x1 (0 : Int32) (60 : Int32)) = 0 then (some ((-1000001 : Int32), m))
  else (if (f_X7_in x2 (1 : Int32) (999999 : Int32)) = 0 then (some ((-1000001 : Int32), m))
  else (if (f_X7_in x3 (0 : Int32) (1 : Int32)) = 0 then (some ((-1000001 : Int32), m))
  else (bd1 (f_X7_copies 304 55 (0 : Int32) 306 55 (0 : Int32) m) fun m5 => (nm_ ((x2).toInt64 : Int64) fun v6 => (bd1 (lp_X7_drawn_62 FU x1 x3 v6 (0 : Int32) m5) fun m21 => (nm_ ((if x3 = 0 then (4 : Int32)
  else (5 : Int32)) : Int32) fun j24 => (gd_ (¬ (j24 < 0 ∨ 55 ≤ ix j24)) (some ((m21 306 (ix j24)), m21)))))))))))
def f_X7_image (x1 : Int32) (m : Mm) : Option (Int32 × Mm) :=
  (if (f_X7_in x1 (0 : Int32) (1 : Int32)) = 0 then (some ((-1000001 : Int32), m))
  else (if (f_X7_isWedding m) = 0 then (some ((-1000002 : Int32), m))
  else (bd1 (f_X7_copies 304 55 (0 : Int32) 308 110 ((55 : Int32) * x1) m) fun m3 => (gd_ (¬ (x1 < 0 ∨ 2 ≤ ix x1)) (nm_ ((st_ m3 309 (ix x1) (1 : Int32)) : Mm) fun m4 => (some ((1 : Int32), m4)))))))
def f_X7_restore (x1 : Int32) (m : Mm) : Option (Int32 × Mm) :=
  (if (f_X7_in x1 (0 : Int32) (1 : Int32)) = 0 then (some ((-1000001 : Int32), m))
  else (gd_ (¬ (x1 < 0 ∨ 2 ≤ ix x1)) (if (m 309 (ix x1)) = 0 then (some ((-1000002 : Int32), m))
  else (bd1 (f_X7_copies 308 110 ((55 : Int32) * x1) 304 55 (0 : Int32) m) fun m4 => (nm_ ((st_ m4 298 17 (0 : Int32)) : Mm) fun m5 => (some ((1 : Int32), m5)))))))
def f_X7_kindIn (x1 : Int32) (m : Mm) : Option Int32 :=
  (gd_ (¬ (((6 : Int32) + ((7 : Int32) * x1)) < 0 ∨ 55 ≤ ix ((6 : Int32) + ((7 : Int32) * x1)))) (some (m 304 (ix ((6 : Int32) + ((7 : Int32) * x1))))))
def f_X7_kind (x1 : Int32) (m : Mm) : Option Int32 :=
  (bd1 (f_X7_isGuest x1 m) fun r1 => (if r1 = 0 then (some (-1000001 : Int32))
  else (bd1 (f_X7_kindIn x1 m) fun r3 => (some r3))))
def f_X7_as (x1 : Int32) (x2 : Int32) (m : Mm) : Option (Int32 × Mm) :=
  (bd1 (f_X7_isGuest x1 m) fun r1 => (if r1 = 0 then (some ((-1000001 : Int32), m))
  else (if (f_X7_in x2 (0 : Int32) (5 : Int32)) = 0 then (some ((-1000001 : Int32), m))
  else (bd1 (f_X7_kindIn x1 m) fun r4 => (nm_ ((if x2 = 0 then (1 : Int32)
  else (if x2 = r4 then (1 : Int32)
  else (if x2 = (1 : Int32) then (if r4 < (4 : Int32) then (1 : Int32)
  else (if x2 = (4 : Int32) then (if r4 = (5 : Int32) then (1 : Int32)
  else (0 : Int32))
  else (0 : Int32)))
  else (if x2 = (4 : Int32) then (if r4 = (5 : Int32) then (1 : Int32)
  else (0 : Int32))
  else (0 : Int32))))) : Int32) fun j13 => (if j13 = 0 then (bd2 (f_X7_found (3 : Int32) m) fun r16 m15 => (some (r16, m15)))
  else (bd2 (f_X7_well x1 m) fun r18 m17 => (some (r18, m17)))))))))
def f_X7_begins (x1 : Int32) (m : Mm) : Option Mm :=
  (if (16 : Int32) ≤ (m 298 23) then (some m)
  else (gd_ (¬ ((m 298 23) < 0 ∨ 16 ≤ ix (m 298 23))) (nm_ ((st_ m 312 (ix (m 298 23)) x1) : Mm) fun m2 => (nm_ (((m2 298 23) + (1 : Int32)) : Int32) fun v3 => (nm_ ((st_ m2 298 23 v3) : Mm) fun m4 => (some m4))))))
def f_X7_auntMark (x1 : Int32) (m : Mm) : Option (Int32 × Mm) :=
  (bd1 (f_X7_kindIn x1 m) fun r1 => (bd1 ((if r1 = (1 : Int32) then (some m)
  else (nm_ ((if r1 = (2 : Int32) then (24 : Int32)
  else (22 : Int32)) : Int32) fun j4 => (bd1 (f_X7_begins j4 m) fun m5 => (some m5)))) : Option Mm) fun m6 => (bd1 (f_X7_begins (21 : Int32) m6) fun m7 => (bd1 (f_X7_begins (20 : Int32) m7) fun m8 => (gd_ (¬ ((((6 : Int32) + ((7 : Int32) * x1)) + (2 : Int32)) < 0 ∨ 55 ≤ ix (((6 : Int32) + ((7 : Int32) * x1)) + (2 : Int32)))) (nm_ ((x1 + (m8 304 (ix (((6 : Int32) + ((7 : Int32) * x1)) + (2 : Int32))))) : Int32) fun v10 => (if r1 = (2 : Int32) then (some (((2 : Int32) * v10), m8))
  else (if r1 = (3 : Int32) then (some ((v10 - (1000 : Int32)), m8))
  else (some (v10, m8))))))))))
def f_X7_manSize (x1 : Int32) (m : Mm) : Option (Int32 × Mm) :=
  (bd1 (f_X7_kindIn x1 m) fun r1 => (nm_ ((if r1 = (5 : Int32) then (1 : Int32)
  else (0 : Int32)) : Int32) fun j3 => (bd1 ((if j3 = 0 then (some m)
  else (bd1 (f_X7_begins (14 : Int32) m) fun m5 => (some m5))) : Option Mm) fun m6 => (bd1 (f_X7_begins (13 : Int32) m6) fun m7 => (bd1 (f_X7_begins (10 : Int32) m7) fun m8 => (gd_ (¬ ((((6 : Int32) + ((7 : Int32) * x1)) + (1 : Int32)) < 0 ∨ 55 ≤ ix (((6 : Int32) + ((7 : Int32) * x1)) + (1 : Int32)))) (nm_ (((m8 304 (ix (((6 : Int32) + ((7 : Int32) * x1)) + (1 : Int32)))) - (100 : Int32)) : Int32) fun v10 => (if j3 = 0 then (some (v10, m8))
  else (some (((2 : Int32) * v10), m8))))))))))
def f_X7_auntSize (x1 : Int32) (m : Mm) : Option (Int32 × Mm) :=
  (bd1 (f_X7_kindIn x1 m) fun r1 => (nm_ ((if r1 = (2 : Int32) then (1 : Int32)
  else (0 : Int32)) : Int32) fun j3 => (bd1 ((if j3 = 0 then (some m)
  else (bd1 (f_X7_begins (12 : Int32) m) fun m5 => (some m5))) : Option Mm) fun m6 => (bd1 (f_X7_begins (11 : Int32) m6) fun m7 => (bd1 (f_X7_begins (10 : Int32) m7) fun m8 => (gd_ (¬ ((((6 : Int32) + ((7 : Int32) * x1)) + (1 : Int32)) < 0 ∨ 55 ≤ ix (((6 : Int32) + ((7 : Int32) * x1)) + (1 : Int32)))) (bd2 (f_X7_auntMark x1 m8) fun r11 m10 => (nm_ (((m8 304 (ix (((6 : Int32) + ((7 : Int32) * x1)) + (1 : Int32)))) + r11) : Int32) fun v12 => (if j3 = 0 then (some (v12, m10))
  else (some ((-v12), m10)))))))))))
def f_X7_manMark (x1 : Int32) (m : Mm) : Option (Int32 × Mm) :=
  (bd1 (f_X7_begins (23 : Int32) m) fun m1 => (bd1 (f_X7_begins (20 : Int32) m1) fun m2 => (bd2 (f_X7_manSize x1 m2) fun r4 m3 => (some ((x1 - r4), m3)))))
def f_X7_ask (x1 : Int32) (x2 : Int32) (m : Mm) : Option (Int32 × Mm) :=
  (bd1 (f_X7_isGuest x1 m) fun r1 => (if r1 = 0 then (some ((-1000001 : Int32), m))
  else (if (f_X7_in x2 (0 : Int32) (1 : Int32)) = 0 then (some ((-1000001 : Int32), m))
  else (nm_ ((st_ m 298 23 (0 : Int32)) : Mm) fun m4 => (bd1 (f_X7_kindIn x1 m4) fun r5 => (nm_ ((if r5 < (4 : Int32) then (0 : Int32)
  else (1 : Int32)) : Int32) fun j7 => (if x2 = 0 then (if j7 = 0 then (bd2 (f_X7_auntSize x1 m4) fun r16 m15 => (some (r16, m15)))
  else (bd2 (f_X7_manSize x1 m4) fun r18 m17 => (some (r18, m17))))
  else (if j7 = 0 then (bd2 (f_X7_auntMark x1 m4) fun r11 m10 => (some (r11, m10)))
  else (bd2 (f_X7_manMark x1 m4) fun r13 m12 => (some (r13, m12)))))))))))
def f_X7_trace (x1 : Int32) (m : Mm) : Option Int32 :=
  (if (f_X7_in x1 (0 : Int32) ((m 298 23) - (1 : Int32))) = 0 then (some (-1000000 : Int32))
  else (gd_ (¬ (x1 < 0 ∨ 16 ≤ ix x1)) (some (m 312 (ix x1)))))
def lb_X7_count_58 (rec : Int32 → Int32 → Mm → Option Int32)  (y2 : Int32) (y3 : Int32) (m : Mm) : Option Int32 :=
  (if (8 : Int32) ≤ y3 then (some y2)
  else (bd1 (f_X7_isMissing y3 m) fun r2 => (nm_ ((if r2 = 0 then (1 : Int32)
  else (0 : Int32)) : Int32) fun j4 => (nm_ ((y2 + j4) : Int32) fun v5 => (nm_ ((y3 + (1 : Int32)) : Int32) fun v6 => (rec v5 v6 m))))))
def lp_X7_count_58  : Nat → Int32 → Int32 → Mm → Option Int32
  | 0, _, _, _ => none
  | n + 1, y2, y3, m => lb_X7_count_58 (lp_X7_count_58 n) y2 y3 m
def f_X7_count (x1 : Int32) (m : Mm) : Option Int32 :=
  (if x1 = (0 : Int32) then (bd1 (lp_X7_count_58 FU (0 : Int32) (0 : Int32) m) fun z7 => (some z7))
  else (if x1 = (1 : Int32) then (some (m 304 (ix (2 : Int32))))
  else (if x1 = (2 : Int32) then (some (m 304 (ix (3 : Int32))))
  else (if x1 = (3 : Int32) then (some (m 304 (ix (0 : Int32))))
  else (if x1 = (4 : Int32) then (some (m 304 (ix (1 : Int32))))
  else (if x1 = (5 : Int32) then (some (m 304 (ix (4 : Int32))))
  else (if x1 = (6 : Int32) then (some (m 304 (ix (5 : Int32))))
  else (if x1 = (7 : Int32) then (bd1 (f_X7_hired m) fun r9 => (some r9))
  else (if x1 = (8 : Int32) then (some (m 298 17))
  else (if x1 = (9 : Int32) then (some (m 298 6))
  else (some (-1000001 : Int32))))))))))))
def f_X7_status  (m : Mm) : Int32 :=
  (m 298 4)
theorem sgS_X6_isRow : yX6_isRow.cls ≠ "java/lang/invoke/MethodHandle" ∧ yX6_isRow.cls ≠ "java/lang/invoke/VarHandle" ∧ (parseMethodDescriptor yX6_isRow.desc).map (fun d => d.parameters.length) = some 1 := by decide +kernel
theorem sgV_X6_find : yX6_find.cls = RX6 ∧ yX6_find.cls ≠ "java/lang/invoke/MethodHandle" ∧ yX6_find.cls ≠ "java/lang/invoke/VarHandle" ∧ (parseMethodDescriptor yX6_find.desc).map (fun d => d.parameters.length) = some 1 := by decide +kernel
theorem sgV_X4_make : yX4_make.cls = RX4 ∧ yX4_make.cls ≠ "java/lang/invoke/MethodHandle" ∧ yX4_make.cls ≠ "java/lang/invoke/VarHandle" ∧ (parseMethodDescriptor yX4_make.desc).map (fun d => d.parameters.length) = some 2 := by decide +kernel
theorem sgV_X6_findNothing : yX6_findNothing.cls = RX6 ∧ yX6_findNothing.cls ≠ "java/lang/invoke/MethodHandle" ∧ yX6_findNothing.cls ≠ "java/lang/invoke/VarHandle" ∧ (parseMethodDescriptor yX6_findNothing.desc).map (fun d => d.parameters.length) = some 1 := by decide +kernel
theorem sgV_X6_row : yX6_row.cls = RX6 ∧ yX6_row.cls ≠ "java/lang/invoke/MethodHandle" ∧ yX6_row.cls ≠ "java/lang/invoke/VarHandle" ∧ (parseMethodDescriptor yX6_row.desc).map (fun d => d.parameters.length) = some 3 := by decide +kernel
theorem sgV_X4_spans : yX4_spans.cls = RX4 ∧ yX4_spans.cls ≠ "java/lang/invoke/MethodHandle" ∧ yX4_spans.cls ≠ "java/lang/invoke/VarHandle" ∧ (parseMethodDescriptor yX4_spans.desc).map (fun d => d.parameters.length) = some 2 := by decide +kernel
theorem sgV_X4_cut : yX4_cut.cls = RX4 ∧ yX4_cut.cls ≠ "java/lang/invoke/MethodHandle" ∧ yX4_cut.cls ≠ "java/lang/invoke/VarHandle" ∧ (parseMethodDescriptor yX4_cut.desc).map (fun d => d.parameters.length) = some 1 := by decide +kernel
theorem sgV_X4_put : yX4_put.cls = RX4 ∧ yX4_put.cls ≠ "java/lang/invoke/MethodHandle" ∧ yX4_put.cls ≠ "java/lang/invoke/VarHandle" ∧ (parseMethodDescriptor yX4_put.desc).map (fun d => d.parameters.length) = some 2 := by decide +kernel
theorem sgV_X6_set : yX6_set.cls = RX6 ∧ yX6_set.cls ≠ "java/lang/invoke/MethodHandle" ∧ yX6_set.cls ≠ "java/lang/invoke/VarHandle" ∧ (parseMethodDescriptor yX6_set.desc).map (fun d => d.parameters.length) = some 3 := by decide +kernel
theorem sgV_X6_copy : yX6_copy.cls = RX6 ∧ yX6_copy.cls ≠ "java/lang/invoke/MethodHandle" ∧ yX6_copy.cls ≠ "java/lang/invoke/VarHandle" ∧ (parseMethodDescriptor yX6_copy.desc).map (fun d => d.parameters.length) = some 5 := by decide +kernel
theorem sgV_X6_drop : yX6_drop.cls = RX6 ∧ yX6_drop.cls ≠ "java/lang/invoke/MethodHandle" ∧ yX6_drop.cls ≠ "java/lang/invoke/VarHandle" ∧ (parseMethodDescriptor yX6_drop.desc).map (fun d => d.parameters.length) = some 1 := by decide +kernel
theorem sgV_X3_take : yX3_take.cls = RX3 ∧ yX3_take.cls ≠ "java/lang/invoke/MethodHandle" ∧ yX3_take.cls ≠ "java/lang/invoke/VarHandle" ∧ (parseMethodDescriptor yX3_take.desc).map (fun d => d.parameters.length) = some 1 := by decide +kernel
theorem sgV_X6_feed : yX6_feed.cls = RX6 ∧ yX6_feed.cls ≠ "java/lang/invoke/MethodHandle" ∧ yX6_feed.cls ≠ "java/lang/invoke/VarHandle" ∧ (parseMethodDescriptor yX6_feed.desc).map (fun d => d.parameters.length) = some 1 := by decide +kernel
theorem sgV_X3_refuse : yX3_refuse.cls = RX3 ∧ yX3_refuse.cls ≠ "java/lang/invoke/MethodHandle" ∧ yX3_refuse.cls ≠ "java/lang/invoke/VarHandle" ∧ (parseMethodDescriptor yX3_refuse.desc).map (fun d => d.parameters.length) = some 1 := by decide +kernel
theorem sgV_X3_sign : yX3_sign.cls = RX3 ∧ yX3_sign.cls ≠ "java/lang/invoke/MethodHandle" ∧ yX3_sign.cls ≠ "java/lang/invoke/VarHandle" ∧ (parseMethodDescriptor yX3_sign.desc).map (fun d => d.parameters.length) = some 1 := by decide +kernel
theorem sgS_X3_isFigure : yX3_isFigure.cls ≠ "java/lang/invoke/MethodHandle" ∧ yX3_isFigure.cls ≠ "java/lang/invoke/VarHandle" ∧ (parseMethodDescriptor yX3_isFigure.desc).map (fun d => d.parameters.length) = some 1 := by decide +kernel
theorem sgV_X3_number : yX3_number.cls = RX3 ∧ yX3_number.cls ≠ "java/lang/invoke/MethodHandle" ∧ yX3_number.cls ≠ "java/lang/invoke/VarHandle" ∧ (parseMethodDescriptor yX3_number.desc).map (fun d => d.parameters.length) = some 2 := by decide +kernel
theorem sgV_X3_readLaw : yX3_readLaw.cls = RX3 ∧ yX3_readLaw.cls ≠ "java/lang/invoke/MethodHandle" ∧ yX3_readLaw.cls ≠ "java/lang/invoke/VarHandle" ∧ (parseMethodDescriptor yX3_readLaw.desc).map (fun d => d.parameters.length) = some 0 := by decide +kernel
theorem sgS_X3_sortOf : yX3_sortOf.cls ≠ "java/lang/invoke/MethodHandle" ∧ yX3_sortOf.cls ≠ "java/lang/invoke/VarHandle" ∧ (parseMethodDescriptor yX3_sortOf.desc).map (fun d => d.parameters.length) = some 1 := by decide +kernel
theorem sgV_X5_welcome : yX5_welcome.cls = RX5 ∧ yX5_welcome.cls ≠ "java/lang/invoke/MethodHandle" ∧ yX5_welcome.cls ≠ "java/lang/invoke/VarHandle" ∧ (parseMethodDescriptor yX5_welcome.desc).map (fun d => d.parameters.length) = some 4 := by decide +kernel
theorem sgV_X3_readGuest : yX3_readGuest.cls = RX3 ∧ yX3_readGuest.cls ≠ "java/lang/invoke/MethodHandle" ∧ yX3_readGuest.cls ≠ "java/lang/invoke/VarHandle" ∧ (parseMethodDescriptor yX3_readGuest.desc).map (fun d => d.parameters.length) = some 0 := by decide +kernel
theorem sgV_X3_read : yX3_read.cls = RX3 ∧ yX3_read.cls ≠ "java/lang/invoke/MethodHandle" ∧ yX3_read.cls ≠ "java/lang/invoke/VarHandle" ∧ (parseMethodDescriptor yX3_read.desc).map (fun d => d.parameters.length) = some 0 := by decide +kernel
theorem sgV_X5_become : yX5_become.cls = RX5 ∧ yX5_become.cls ≠ "java/lang/invoke/MethodHandle" ∧ yX5_become.cls ≠ "java/lang/invoke/VarHandle" ∧ (parseMethodDescriptor yX5_become.desc).map (fun d => d.parameters.length) = some 1 := by decide +kernel
theorem sgV_X0_forget : yX0_forget.cls = RX0 ∧ yX0_forget.cls ≠ "java/lang/invoke/MethodHandle" ∧ yX0_forget.cls ≠ "java/lang/invoke/VarHandle" ∧ (parseMethodDescriptor yX0_forget.desc).map (fun d => d.parameters.length) = some 0 := by decide +kernel
theorem sgV_X6_wedding : yX6_wedding.cls = RX6 ∧ yX6_wedding.cls ≠ "java/lang/invoke/MethodHandle" ∧ yX6_wedding.cls ≠ "java/lang/invoke/VarHandle" ∧ (parseMethodDescriptor yX6_wedding.desc).map (fun d => d.parameters.length) = some 0 := by decide +kernel
theorem sgV_X6_fault : yX6_fault.cls = RX6 ∧ yX6_fault.cls ≠ "java/lang/invoke/MethodHandle" ∧ yX6_fault.cls ≠ "java/lang/invoke/VarHandle" ∧ (parseMethodDescriptor yX6_fault.desc).map (fun d => d.parameters.length) = some 0 := by decide +kernel
theorem sgV_X6_isNone : yX6_isNone.cls = RX6 ∧ yX6_isNone.cls ≠ "java/lang/invoke/MethodHandle" ∧ yX6_isNone.cls ≠ "java/lang/invoke/VarHandle" ∧ (parseMethodDescriptor yX6_isNone.desc).map (fun d => d.parameters.length) = some 0 := by decide +kernel
theorem sgV_X0_keep : yX0_keep.cls = RX0 ∧ yX0_keep.cls ≠ "java/lang/invoke/MethodHandle" ∧ yX0_keep.cls ≠ "java/lang/invoke/VarHandle" ∧ (parseMethodDescriptor yX0_keep.desc).map (fun d => d.parameters.length) = some 1 := by decide +kernel
theorem sgV_X5_isHired : yX5_isHired.cls = RX5 ∧ yX5_isHired.cls ≠ "java/lang/invoke/MethodHandle" ∧ yX5_isHired.cls ≠ "java/lang/invoke/VarHandle" ∧ (parseMethodDescriptor yX5_isHired.desc).map (fun d => d.parameters.length) = some 1 := by decide +kernel
theorem sgV_X5_lastIn : yX5_lastIn.cls = RX5 ∧ yX5_lastIn.cls ≠ "java/lang/invoke/MethodHandle" ∧ yX5_lastIn.cls ≠ "java/lang/invoke/VarHandle" ∧ (parseMethodDescriptor yX5_lastIn.desc).map (fun d => d.parameters.length) = some 1 := by decide +kernel
theorem sgV_X5_sheds : yX5_sheds.cls = RX5 ∧ yX5_sheds.cls ≠ "java/lang/invoke/MethodHandle" ∧ yX5_sheds.cls ≠ "java/lang/invoke/VarHandle" ∧ (parseMethodDescriptor yX5_sheds.desc).map (fun d => d.parameters.length) = some 1 := by decide +kernel
theorem sgV_X5_pass : yX5_pass.cls = RX5 ∧ yX5_pass.cls ≠ "java/lang/invoke/MethodHandle" ∧ yX5_pass.cls ≠ "java/lang/invoke/VarHandle" ∧ (parseMethodDescriptor yX5_pass.desc).map (fun d => d.parameters.length) = some 0 := by decide +kernel
theorem sgV_X6_minutes : yX6_minutes.cls = RX6 ∧ yX6_minutes.cls ≠ "java/lang/invoke/MethodHandle" ∧ yX6_minutes.cls ≠ "java/lang/invoke/VarHandle" ∧ (parseMethodDescriptor yX6_minutes.desc).map (fun d => d.parameters.length) = some 1 := by decide +kernel
theorem sgV_X5_has : yX5_has.cls = RX5 ∧ yX5_has.cls ≠ "java/lang/invoke/MethodHandle" ∧ yX5_has.cls ≠ "java/lang/invoke/VarHandle" ∧ (parseMethodDescriptor yX5_has.desc).map (fun d => d.parameters.length) = some 1 := by decide +kernel
theorem sgV_X5_engage : yX5_engage.cls = RX5 ∧ yX5_engage.cls ≠ "java/lang/invoke/MethodHandle" ∧ yX5_engage.cls ≠ "java/lang/invoke/VarHandle" ∧ (parseMethodDescriptor yX5_engage.desc).map (fun d => d.parameters.length) = some 1 := by decide +kernel
theorem sgV_X6_hire : yX6_hire.cls = RX6 ∧ yX6_hire.cls ≠ "java/lang/invoke/MethodHandle" ∧ yX6_hire.cls ≠ "java/lang/invoke/VarHandle" ∧ (parseMethodDescriptor yX6_hire.desc).map (fun d => d.parameters.length) = some 2 := by decide +kernel
theorem sgV_X5_sit : yX5_sit.cls = RX5 ∧ yX5_sit.cls ≠ "java/lang/invoke/MethodHandle" ∧ yX5_sit.cls ≠ "java/lang/invoke/VarHandle" ∧ (parseMethodDescriptor yX5_sit.desc).map (fun d => d.parameters.length) = some 2 := by decide +kernel
theorem sgV_X5_trade : yX5_trade.cls = RX5 ∧ yX5_trade.cls ≠ "java/lang/invoke/MethodHandle" ∧ yX5_trade.cls ≠ "java/lang/invoke/VarHandle" ∧ (parseMethodDescriptor yX5_trade.desc).map (fun d => d.parameters.length) = some 2 := by decide +kernel
theorem sgV_X6_swap : yX6_swap.cls = RX6 ∧ yX6_swap.cls ≠ "java/lang/invoke/MethodHandle" ∧ yX6_swap.cls ≠ "java/lang/invoke/VarHandle" ∧ (parseMethodDescriptor yX6_swap.desc).map (fun d => d.parameters.length) = some 2 := by decide +kernel
theorem sgV_X6_hymns : yX6_hymns.cls = RX6 ∧ yX6_hymns.cls ≠ "java/lang/invoke/MethodHandle" ∧ yX6_hymns.cls ≠ "java/lang/invoke/VarHandle" ∧ (parseMethodDescriptor yX6_hymns.desc).map (fun d => d.parameters.length) = some 1 := by decide +kernel
theorem sgV_X0_takeBack : yX0_takeBack.cls = RX0 ∧ yX0_takeBack.cls ≠ "java/lang/invoke/MethodHandle" ∧ yX0_takeBack.cls ≠ "java/lang/invoke/VarHandle" ∧ (parseMethodDescriptor yX0_takeBack.desc).map (fun d => d.parameters.length) = some 1 := by decide +kernel
theorem sgV_X6_undo : yX6_undo.cls = RX6 ∧ yX6_undo.cls ≠ "java/lang/invoke/MethodHandle" ∧ yX6_undo.cls ≠ "java/lang/invoke/VarHandle" ∧ (parseMethodDescriptor yX6_undo.desc).map (fun d => d.parameters.length) = some 0 := by decide +kernel
theorem sgV_X6_guest : yX6_guest.cls = RX6 ∧ yX6_guest.cls ≠ "java/lang/invoke/MethodHandle" ∧ yX6_guest.cls ≠ "java/lang/invoke/VarHandle" ∧ (parseMethodDescriptor yX6_guest.desc).map (fun d => d.parameters.length) = some 2 := by decide +kernel
theorem sgV_X6_seat : yX6_seat.cls = RX6 ∧ yX6_seat.cls ≠ "java/lang/invoke/MethodHandle" ∧ yX6_seat.cls ≠ "java/lang/invoke/VarHandle" ∧ (parseMethodDescriptor yX6_seat.desc).map (fun d => d.parameters.length) = some 1 := by decide +kernel
theorem sgS_X6_isWithin : yX6_isWithin.cls ≠ "java/lang/invoke/MethodHandle" ∧ yX6_isWithin.cls ≠ "java/lang/invoke/VarHandle" ∧ (parseMethodDescriptor yX6_isWithin.desc).map (fun d => d.parameters.length) = some 3 := by decide +kernel
theorem sgS_X6_isFlag : yX6_isFlag.cls ≠ "java/lang/invoke/MethodHandle" ∧ yX6_isFlag.cls ≠ "java/lang/invoke/VarHandle" ∧ (parseMethodDescriptor yX6_isFlag.desc).map (fun d => d.parameters.length) = some 1 := by decide +kernel
theorem sgV_X5_run : yX5_run.cls = RX5 ∧ yX5_run.cls ≠ "java/lang/invoke/MethodHandle" ∧ yX5_run.cls ≠ "java/lang/invoke/VarHandle" ∧ (parseMethodDescriptor yX5_run.desc).map (fun d => d.parameters.length) = some 1 := by decide +kernel
theorem sgV_X1_after : yX1_after.cls = RX1 ∧ yX1_after.cls ≠ "java/lang/invoke/MethodHandle" ∧ yX1_after.cls ≠ "java/lang/invoke/VarHandle" ∧ (parseMethodDescriptor yX1_after.desc).map (fun d => d.parameters.length) = some 2 := by decide +kernel
theorem sgV_X6_ahead : yX6_ahead.cls = RX6 ∧ yX6_ahead.cls ≠ "java/lang/invoke/MethodHandle" ∧ yX6_ahead.cls ≠ "java/lang/invoke/VarHandle" ∧ (parseMethodDescriptor yX6_ahead.desc).map (fun d => d.parameters.length) = some 3 := by decide +kernel
theorem sgV_X6_bottle : yX6_bottle.cls = RX6 ∧ yX6_bottle.cls ≠ "java/lang/invoke/MethodHandle" ∧ yX6_bottle.cls ≠ "java/lang/invoke/VarHandle" ∧ (parseMethodDescriptor yX6_bottle.desc).map (fun d => d.parameters.length) = some 2 := by decide +kernel
theorem sgV_X5_isFull : yX5_isFull.cls = RX5 ∧ yX5_isFull.cls ≠ "java/lang/invoke/MethodHandle" ∧ yX5_isFull.cls ≠ "java/lang/invoke/VarHandle" ∧ (parseMethodDescriptor yX5_isFull.desc).map (fun d => d.parameters.length) = some 0 := by decide +kernel
theorem sgV_X1_minutesToFull : yX1_minutesToFull.cls = RX1 ∧ yX1_minutesToFull.cls ≠ "java/lang/invoke/MethodHandle" ∧ yX1_minutesToFull.cls ≠ "java/lang/invoke/VarHandle" ∧ (parseMethodDescriptor yX1_minutesToFull.desc).map (fun d => d.parameters.length) = some 1 := by decide +kernel
theorem sgV_X6_filled : yX6_filled.cls = RX6 ∧ yX6_filled.cls ≠ "java/lang/invoke/MethodHandle" ∧ yX6_filled.cls ≠ "java/lang/invoke/VarHandle" ∧ (parseMethodDescriptor yX6_filled.desc).map (fun d => d.parameters.length) = some 0 := by decide +kernel
theorem sgV_X1_firstDry : yX1_firstDry.cls = RX1 ∧ yX1_firstDry.cls ≠ "java/lang/invoke/MethodHandle" ∧ yX1_firstDry.cls ≠ "java/lang/invoke/VarHandle" ∧ (parseMethodDescriptor yX1_firstDry.desc).map (fun d => d.parameters.length) = some 0 := by decide +kernel
theorem sgV_X1_findDry : yX1_findDry.cls = RX1 ∧ yX1_findDry.cls ≠ "java/lang/invoke/MethodHandle" ∧ yX1_findDry.cls ≠ "java/lang/invoke/VarHandle" ∧ (parseMethodDescriptor yX1_findDry.desc).map (fun d => d.parameters.length) = some 1 := by decide +kernel
theorem sgV_X1_answer : yX1_answer.cls = RX1 ∧ yX1_answer.cls ≠ "java/lang/invoke/MethodHandle" ∧ yX1_answer.cls ≠ "java/lang/invoke/VarHandle" ∧ (parseMethodDescriptor yX1_answer.desc).map (fun d => d.parameters.length) = some 1 := by decide +kernel
theorem sgV_X6_dry : yX6_dry.cls = RX6 ∧ yX6_dry.cls ≠ "java/lang/invoke/MethodHandle" ∧ yX6_dry.cls ≠ "java/lang/invoke/VarHandle" ∧ (parseMethodDescriptor yX6_dry.desc).map (fun d => d.parameters.length) = some 1 := by decide +kernel
theorem sgV_X1_fillsWith : yX1_fillsWith.cls = RX1 ∧ yX1_fillsWith.cls ≠ "java/lang/invoke/MethodHandle" ∧ yX1_fillsWith.cls ≠ "java/lang/invoke/VarHandle" ∧ (parseMethodDescriptor yX1_fillsWith.desc).map (fun d => d.parameters.length) = some 3 := by decide +kernel
theorem sgS_J6_bitCount_0f7a4 : yJ6_bitCount_0f7a4.cls ≠ "java/lang/invoke/MethodHandle" ∧ yJ6_bitCount_0f7a4.cls ≠ "java/lang/invoke/VarHandle" ∧ (parseMethodDescriptor yJ6_bitCount_0f7a4.desc).map (fun d => d.parameters.length) = some 1 := by decide +kernel
theorem sgV_X1_isCheaper : yX1_isCheaper.cls = RX1 ∧ yX1_isCheaper.cls ≠ "java/lang/invoke/MethodHandle" ∧ yX1_isCheaper.cls ≠ "java/lang/invoke/VarHandle" ∧ (parseMethodDescriptor yX1_isCheaper.desc).map (fun d => d.parameters.length) = some 2 := by decide +kernel
theorem sgV_X1_findCheapest : yX1_findCheapest.cls = RX1 ∧ yX1_findCheapest.cls ≠ "java/lang/invoke/MethodHandle" ∧ yX1_findCheapest.cls ≠ "java/lang/invoke/VarHandle" ∧ (parseMethodDescriptor yX1_findCheapest.desc).map (fun d => d.parameters.length) = some 2 := by decide +kernel
theorem sgV_X6_hiring : yX6_hiring.cls = RX6 ∧ yX6_hiring.cls ≠ "java/lang/invoke/MethodHandle" ∧ yX6_hiring.cls ≠ "java/lang/invoke/VarHandle" ∧ (parseMethodDescriptor yX6_hiring.desc).map (fun d => d.parameters.length) = some 2 := by decide +kernel
theorem sgV_X1_keepIfMore : yX1_keepIfMore.cls = RX1 ∧ yX1_keepIfMore.cls ≠ "java/lang/invoke/MethodHandle" ∧ yX1_keepIfMore.cls ≠ "java/lang/invoke/VarHandle" ∧ (parseMethodDescriptor yX1_keepIfMore.desc).map (fun d => d.parameters.length) = some 1 := by decide +kernel
theorem sgV_X1_tryOrder : yX1_tryOrder.cls = RX1 ∧ yX1_tryOrder.cls ≠ "java/lang/invoke/MethodHandle" ∧ yX1_tryOrder.cls ≠ "java/lang/invoke/VarHandle" ∧ (parseMethodDescriptor yX1_tryOrder.desc).map (fun d => d.parameters.length) = some 2 := by decide +kernel
theorem sgV_X1_exchange : yX1_exchange.cls = RX1 ∧ yX1_exchange.cls ≠ "java/lang/invoke/MethodHandle" ∧ yX1_exchange.cls ≠ "java/lang/invoke/VarHandle" ∧ (parseMethodDescriptor yX1_exchange.desc).map (fun d => d.parameters.length) = some 2 := by decide +kernel
theorem sgV_X1_nextOrder : yX1_nextOrder.cls = RX1 ∧ yX1_nextOrder.cls ≠ "java/lang/invoke/MethodHandle" ∧ yX1_nextOrder.cls ≠ "java/lang/invoke/VarHandle" ∧ (parseMethodDescriptor yX1_nextOrder.desc).map (fun d => d.parameters.length) = some 1 := by decide +kernel
theorem sgV_X1_findOrder : yX1_findOrder.cls = RX1 ∧ yX1_findOrder.cls ≠ "java/lang/invoke/MethodHandle" ∧ yX1_findOrder.cls ≠ "java/lang/invoke/VarHandle" ∧ (parseMethodDescriptor yX1_findOrder.desc).map (fun d => d.parameters.length) = some 2 := by decide +kernel
theorem sgV_X6_order : yX6_order.cls = RX6 ∧ yX6_order.cls ≠ "java/lang/invoke/MethodHandle" ∧ yX6_order.cls ≠ "java/lang/invoke/VarHandle" ∧ (parseMethodDescriptor yX6_order.desc).map (fun d => d.parameters.length) = some 2 := by decide +kernel
theorem sgV_X1_findChange : yX1_findChange.cls = RX1 ∧ yX1_findChange.cls ≠ "java/lang/invoke/MethodHandle" ∧ yX1_findChange.cls ≠ "java/lang/invoke/VarHandle" ∧ (parseMethodDescriptor yX1_findChange.desc).map (fun d => d.parameters.length) = some 2 := by decide +kernel
theorem sgV_X6_change : yX6_change.cls = RX6 ∧ yX6_change.cls ≠ "java/lang/invoke/MethodHandle" ∧ yX6_change.cls ≠ "java/lang/invoke/VarHandle" ∧ (parseMethodDescriptor yX6_change.desc).map (fun d => d.parameters.length) = some 2 := by decide +kernel
theorem sgV_X2_listen : yX2_listen.cls = RX2 ∧ yX2_listen.cls ≠ "java/lang/invoke/MethodHandle" ∧ yX2_listen.cls ≠ "java/lang/invoke/VarHandle" ∧ (parseMethodDescriptor yX2_listen.desc).map (fun d => d.parameters.length) = some 4 := by decide +kernel
theorem sgV_X2_isAsTold : yX2_isAsTold.cls = RX2 ∧ yX2_isAsTold.cls ≠ "java/lang/invoke/MethodHandle" ∧ yX2_isAsTold.cls ≠ "java/lang/invoke/VarHandle" ∧ (parseMethodDescriptor yX2_isAsTold.desc).map (fun d => d.parameters.length) = some 0 := by decide +kernel
theorem sgV_X2_sorts : yX2_sorts.cls = RX2 ∧ yX2_sorts.cls ≠ "java/lang/invoke/MethodHandle" ∧ yX2_sorts.cls ≠ "java/lang/invoke/VarHandle" ∧ (parseMethodDescriptor yX2_sorts.desc).map (fun d => d.parameters.length) = some 1 := by decide +kernel
theorem sgV_X2_starts : yX2_starts.cls = RX2 ∧ yX2_starts.cls ≠ "java/lang/invoke/MethodHandle" ∧ yX2_starts.cls ≠ "java/lang/invoke/VarHandle" ∧ (parseMethodDescriptor yX2_starts.desc).map (fun d => d.parameters.length) = some 1 := by decide +kernel
theorem sgV_X2_hymnsHeard : yX2_hymnsHeard.cls = RX2 ∧ yX2_hymnsHeard.cls ≠ "java/lang/invoke/MethodHandle" ∧ yX2_hymnsHeard.cls ≠ "java/lang/invoke/VarHandle" ∧ (parseMethodDescriptor yX2_hymnsHeard.desc).map (fun d => d.parameters.length) = some 1 := by decide +kernel
theorem sgV_X2_isWell : yX2_isWell.cls = RX2 ∧ yX2_isWell.cls ≠ "java/lang/invoke/MethodHandle" ∧ yX2_isWell.cls ≠ "java/lang/invoke/VarHandle" ∧ (parseMethodDescriptor yX2_isWell.desc).map (fun d => d.parameters.length) = some 2 := by decide +kernel
theorem sgV_X2_wells : yX2_wells.cls = RX2 ∧ yX2_wells.cls ≠ "java/lang/invoke/MethodHandle" ∧ yX2_wells.cls ≠ "java/lang/invoke/VarHandle" ∧ (parseMethodDescriptor yX2_wells.desc).map (fun d => d.parameters.length) = some 1 := by decide +kernel
theorem sgV_X2_leastWell : yX2_leastWell.cls = RX2 ∧ yX2_leastWell.cls ≠ "java/lang/invoke/MethodHandle" ∧ yX2_leastWell.cls ≠ "java/lang/invoke/VarHandle" ∧ (parseMethodDescriptor yX2_leastWell.desc).map (fun d => d.parameters.length) = some 1 := by decide +kernel
theorem sgV_X6_fits : yX6_fits.cls = RX6 ∧ yX6_fits.cls ≠ "java/lang/invoke/MethodHandle" ∧ yX6_fits.cls ≠ "java/lang/invoke/VarHandle" ∧ (parseMethodDescriptor yX6_fits.desc).map (fun d => d.parameters.length) = some 5 := by decide +kernel
theorem sgS_X1_waysToStay : yX1_waysToStay.cls ≠ "java/lang/invoke/MethodHandle" ∧ yX1_waysToStay.cls ≠ "java/lang/invoke/VarHandle" ∧ (parseMethodDescriptor yX1_waysToStay.desc).map (fun d => d.parameters.length) = some 3 := by decide +kernel
theorem sgS_X1_commonDivisor : yX1_commonDivisor.cls ≠ "java/lang/invoke/MethodHandle" ∧ yX1_commonDivisor.cls ≠ "java/lang/invoke/VarHandle" ∧ (parseMethodDescriptor yX1_commonDivisor.desc).map (fun d => d.parameters.length) = some 2 := by decide +kernel
theorem sgV_X1_weighAway : yX1_weighAway.cls = RX1 ∧ yX1_weighAway.cls ≠ "java/lang/invoke/MethodHandle" ∧ yX1_weighAway.cls ≠ "java/lang/invoke/VarHandle" ∧ (parseMethodDescriptor yX1_weighAway.desc).map (fun d => d.parameters.length) = some 3 := by decide +kernel
theorem sgV_X6_away : yX6_away.cls = RX6 ∧ yX6_away.cls ≠ "java/lang/invoke/MethodHandle" ∧ yX6_away.cls ≠ "java/lang/invoke/VarHandle" ∧ (parseMethodDescriptor yX6_away.desc).map (fun d => d.parameters.length) = some 3 := by decide +kernel
theorem sgV_X1_season : yX1_season.cls = RX1 ∧ yX1_season.cls ≠ "java/lang/invoke/MethodHandle" ∧ yX1_season.cls ≠ "java/lang/invoke/VarHandle" ∧ (parseMethodDescriptor yX1_season.desc).map (fun d => d.parameters.length) = some 3 := by decide +kernel
theorem sgV_X6_drawn : yX6_drawn.cls = RX6 ∧ yX6_drawn.cls ≠ "java/lang/invoke/MethodHandle" ∧ yX6_drawn.cls ≠ "java/lang/invoke/VarHandle" ∧ (parseMethodDescriptor yX6_drawn.desc).map (fun d => d.parameters.length) = some 3 := by decide +kernel
theorem sgV_X6_image : yX6_image.cls = RX6 ∧ yX6_image.cls ≠ "java/lang/invoke/MethodHandle" ∧ yX6_image.cls ≠ "java/lang/invoke/VarHandle" ∧ (parseMethodDescriptor yX6_image.desc).map (fun d => d.parameters.length) = some 1 := by decide +kernel
theorem sgV_X6_restore : yX6_restore.cls = RX6 ∧ yX6_restore.cls ≠ "java/lang/invoke/MethodHandle" ∧ yX6_restore.cls ≠ "java/lang/invoke/VarHandle" ∧ (parseMethodDescriptor yX6_restore.desc).map (fun d => d.parameters.length) = some 1 := by decide +kernel
theorem sgV_X6_kind : yX6_kind.cls = RX6 ∧ yX6_kind.cls ≠ "java/lang/invoke/MethodHandle" ∧ yX6_kind.cls ≠ "java/lang/invoke/VarHandle" ∧ (parseMethodDescriptor yX6_kind.desc).map (fun d => d.parameters.length) = some 1 := by decide +kernel
theorem sgS_X6_isOf : yX6_isOf.cls ≠ "java/lang/invoke/MethodHandle" ∧ yX6_isOf.cls ≠ "java/lang/invoke/VarHandle" ∧ (parseMethodDescriptor yX6_isOf.desc).map (fun d => d.parameters.length) = some 2 := by decide +kernel
theorem sgV_X6_as : yX6_as.cls = RX6 ∧ yX6_as.cls ≠ "java/lang/invoke/MethodHandle" ∧ yX6_as.cls ≠ "java/lang/invoke/VarHandle" ∧ (parseMethodDescriptor yX6_as.desc).map (fun d => d.parameters.length) = some 2 := by decide +kernel
theorem sgV_X6_leaveTrace : yX6_leaveTrace.cls = RX6 ∧ yX6_leaveTrace.cls ≠ "java/lang/invoke/MethodHandle" ∧ yX6_leaveTrace.cls ≠ "java/lang/invoke/VarHandle" ∧ (parseMethodDescriptor yX6_leaveTrace.desc).map (fun d => d.parameters.length) = some 1 := by decide +kernel
theorem sgV_X6_give : yX6_give.cls = RX6 ∧ yX6_give.cls ≠ "java/lang/invoke/MethodHandle" ∧ yX6_give.cls ≠ "java/lang/invoke/VarHandle" ∧ (parseMethodDescriptor yX6_give.desc).map (fun d => d.parameters.length) = some 3 := by decide +kernel
theorem sgV_X6_ask : yX6_ask.cls = RX6 ∧ yX6_ask.cls ≠ "java/lang/invoke/MethodHandle" ∧ yX6_ask.cls ≠ "java/lang/invoke/VarHandle" ∧ (parseMethodDescriptor yX6_ask.desc).map (fun d => d.parameters.length) = some 2 := by decide +kernel
theorem sgV_X6_trace : yX6_trace.cls = RX6 ∧ yX6_trace.cls ≠ "java/lang/invoke/MethodHandle" ∧ yX6_trace.cls ≠ "java/lang/invoke/VarHandle" ∧ (parseMethodDescriptor yX6_trace.desc).map (fun d => d.parameters.length) = some 1 := by decide +kernel
theorem sgV_X6_rowsThere : yX6_rowsThere.cls = RX6 ∧ yX6_rowsThere.cls ≠ "java/lang/invoke/MethodHandle" ∧ yX6_rowsThere.cls ≠ "java/lang/invoke/VarHandle" ∧ (parseMethodDescriptor yX6_rowsThere.desc).map (fun d => d.parameters.length) = some 0 := by decide +kernel
theorem sgV_X6_count : yX6_count.cls = RX6 ∧ yX6_count.cls ≠ "java/lang/invoke/MethodHandle" ∧ yX6_count.cls ≠ "java/lang/invoke/VarHandle" ∧ (parseMethodDescriptor yX6_count.desc).map (fun d => d.parameters.length) = some 1 := by decide +kernel
theorem sgV_X6_status : yX6_status.cls = RX6 ∧ yX6_status.cls ≠ "java/lang/invoke/MethodHandle" ∧ yX6_status.cls ≠ "java/lang/invoke/VarHandle" ∧ (parseMethodDescriptor yX6_status.desc).map (fun d => d.parameters.length) = some 0 := by decide +kernel
theorem sgS_X7_in : yX7_in.cls ≠ "java/lang/invoke/MethodHandle" ∧ yX7_in.cls ≠ "java/lang/invoke/VarHandle" ∧ (parseMethodDescriptor yX7_in.desc).map (fun d => d.parameters.length) = some 3 := by decide +kernel
theorem sgS_X7_has : yX7_has.cls ≠ "java/lang/invoke/MethodHandle" ∧ yX7_has.cls ≠ "java/lang/invoke/VarHandle" ∧ (parseMethodDescriptor yX7_has.desc).map (fun d => d.parameters.length) = some 2 := by decide +kernel
theorem sgS_X7_ones : yX7_ones.cls ≠ "java/lang/invoke/MethodHandle" ∧ yX7_ones.cls ≠ "java/lang/invoke/VarHandle" ∧ (parseMethodDescriptor yX7_ones.desc).map (fun d => d.parameters.length) = some 1 := by decide +kernel
theorem sgS_X7_lesser : yX7_lesser.cls ≠ "java/lang/invoke/MethodHandle" ∧ yX7_lesser.cls ≠ "java/lang/invoke/VarHandle" ∧ (parseMethodDescriptor yX7_lesser.desc).map (fun d => d.parameters.length) = some 2 := by decide +kernel
theorem sgS_X7_greater : yX7_greater.cls ≠ "java/lang/invoke/MethodHandle" ∧ yX7_greater.cls ≠ "java/lang/invoke/VarHandle" ∧ (parseMethodDescriptor yX7_greater.desc).map (fun d => d.parameters.length) = some 2 := by decide +kernel
theorem sgV_X7_found : yX7_found.cls = RX7 ∧ yX7_found.cls ≠ "java/lang/invoke/MethodHandle" ∧ yX7_found.cls ≠ "java/lang/invoke/VarHandle" ∧ (parseMethodDescriptor yX7_found.desc).map (fun d => d.parameters.length) = some 1 := by decide +kernel
theorem sgV_X7_well : yX7_well.cls = RX7 ∧ yX7_well.cls ≠ "java/lang/invoke/MethodHandle" ∧ yX7_well.cls ≠ "java/lang/invoke/VarHandle" ∧ (parseMethodDescriptor yX7_well.desc).map (fun d => d.parameters.length) = some 1 := by decide +kernel
theorem sgS_X7_copies : yX7_copies.cls ≠ "java/lang/invoke/MethodHandle" ∧ yX7_copies.cls ≠ "java/lang/invoke/VarHandle" ∧ (parseMethodDescriptor yX7_copies.desc).map (fun d => d.parameters.length) = some 4 := by decide +kernel
theorem sgS_X7_isRow : yX7_isRow.cls ≠ "java/lang/invoke/MethodHandle" ∧ yX7_isRow.cls ≠ "java/lang/invoke/VarHandle" ∧ (parseMethodDescriptor yX7_isRow.desc).map (fun d => d.parameters.length) = some 1 := by decide +kernel
theorem sgV_X7_isMissing : yX7_isMissing.cls = RX7 ∧ yX7_isMissing.cls ≠ "java/lang/invoke/MethodHandle" ∧ yX7_isMissing.cls ≠ "java/lang/invoke/VarHandle" ∧ (parseMethodDescriptor yX7_isMissing.desc).map (fun d => d.parameters.length) = some 1 := by decide +kernel
theorem sgS_X7_cut : yX7_cut.cls ≠ "java/lang/invoke/MethodHandle" ∧ yX7_cut.cls ≠ "java/lang/invoke/VarHandle" ∧ (parseMethodDescriptor yX7_cut.desc).map (fun d => d.parameters.length) = some 2 := by decide +kernel
theorem sgV_X7_row : yX7_row.cls = RX7 ∧ yX7_row.cls ≠ "java/lang/invoke/MethodHandle" ∧ yX7_row.cls ≠ "java/lang/invoke/VarHandle" ∧ (parseMethodDescriptor yX7_row.desc).map (fun d => d.parameters.length) = some 3 := by decide +kernel
theorem sgV_X7_set : yX7_set.cls = RX7 ∧ yX7_set.cls ≠ "java/lang/invoke/MethodHandle" ∧ yX7_set.cls ≠ "java/lang/invoke/VarHandle" ∧ (parseMethodDescriptor yX7_set.desc).map (fun d => d.parameters.length) = some 3 := by decide +kernel
theorem sgV_X7_isPart : yX7_isPart.cls = RX7 ∧ yX7_isPart.cls ≠ "java/lang/invoke/MethodHandle" ∧ yX7_isPart.cls ≠ "java/lang/invoke/VarHandle" ∧ (parseMethodDescriptor yX7_isPart.desc).map (fun d => d.parameters.length) = some 3 := by decide +kernel
theorem sgV_X7_copy : yX7_copy.cls = RX7 ∧ yX7_copy.cls ≠ "java/lang/invoke/MethodHandle" ∧ yX7_copy.cls ≠ "java/lang/invoke/VarHandle" ∧ (parseMethodDescriptor yX7_copy.desc).map (fun d => d.parameters.length) = some 5 := by decide +kernel
theorem sgV_X7_drop : yX7_drop.cls = RX7 ∧ yX7_drop.cls ≠ "java/lang/invoke/MethodHandle" ∧ yX7_drop.cls ≠ "java/lang/invoke/VarHandle" ∧ (parseMethodDescriptor yX7_drop.desc).map (fun d => d.parameters.length) = some 1 := by decide +kernel
theorem sgV_X7_feed : yX7_feed.cls = RX7 ∧ yX7_feed.cls ≠ "java/lang/invoke/MethodHandle" ∧ yX7_feed.cls ≠ "java/lang/invoke/VarHandle" ∧ (parseMethodDescriptor yX7_feed.desc).map (fun d => d.parameters.length) = some 1 := by decide +kernel
theorem sgV_X7_byteAt : yX7_byteAt.cls = RX7 ∧ yX7_byteAt.cls ≠ "java/lang/invoke/MethodHandle" ∧ yX7_byteAt.cls ≠ "java/lang/invoke/VarHandle" ∧ (parseMethodDescriptor yX7_byteAt.desc).map (fun d => d.parameters.length) = some 1 := by decide +kernel
theorem sgV_X7_advances : yX7_advances.cls = RX7 ∧ yX7_advances.cls ≠ "java/lang/invoke/MethodHandle" ∧ yX7_advances.cls ≠ "java/lang/invoke/VarHandle" ∧ (parseMethodDescriptor yX7_advances.desc).map (fun d => d.parameters.length) = some 0 := by decide +kernel
theorem sgV_X7_isWell : yX7_isWell.cls = RX7 ∧ yX7_isWell.cls ≠ "java/lang/invoke/MethodHandle" ∧ yX7_isWell.cls ≠ "java/lang/invoke/VarHandle" ∧ (parseMethodDescriptor yX7_isWell.desc).map (fun d => d.parameters.length) = some 0 := by decide +kernel
theorem sgV_X7_takes : yX7_takes.cls = RX7 ∧ yX7_takes.cls ≠ "java/lang/invoke/MethodHandle" ∧ yX7_takes.cls ≠ "java/lang/invoke/VarHandle" ∧ (parseMethodDescriptor yX7_takes.desc).map (fun d => d.parameters.length) = some 2 := by decide +kernel
theorem sgV_X7_figure : yX7_figure.cls = RX7 ∧ yX7_figure.cls ≠ "java/lang/invoke/MethodHandle" ∧ yX7_figure.cls ≠ "java/lang/invoke/VarHandle" ∧ (parseMethodDescriptor yX7_figure.desc).map (fun d => d.parameters.length) = some 2 := by decide +kernel
theorem sgS_X7_kindOf : yX7_kindOf.cls ≠ "java/lang/invoke/MethodHandle" ∧ yX7_kindOf.cls ≠ "java/lang/invoke/VarHandle" ∧ (parseMethodDescriptor yX7_kindOf.desc).map (fun d => d.parameters.length) = some 1 := by decide +kernel
theorem sgV_X7_follows : yX7_follows.cls = RX7 ∧ yX7_follows.cls ≠ "java/lang/invoke/MethodHandle" ∧ yX7_follows.cls ≠ "java/lang/invoke/VarHandle" ∧ (parseMethodDescriptor yX7_follows.desc).map (fun d => d.parameters.length) = some 2 := by decide +kernel
theorem sgV_X7_readsGuest : yX7_readsGuest.cls = RX7 ∧ yX7_readsGuest.cls ≠ "java/lang/invoke/MethodHandle" ∧ yX7_readsGuest.cls ≠ "java/lang/invoke/VarHandle" ∧ (parseMethodDescriptor yX7_readsGuest.desc).map (fun d => d.parameters.length) = some 0 := by decide +kernel
theorem sgV_X7_must : yX7_must.cls = RX7 ∧ yX7_must.cls ≠ "java/lang/invoke/MethodHandle" ∧ yX7_must.cls ≠ "java/lang/invoke/VarHandle" ∧ (parseMethodDescriptor yX7_must.desc).map (fun d => d.parameters.length) = some 1 := by decide +kernel
theorem sgV_X7_wedding : yX7_wedding.cls = RX7 ∧ yX7_wedding.cls ≠ "java/lang/invoke/MethodHandle" ∧ yX7_wedding.cls ≠ "java/lang/invoke/VarHandle" ∧ (parseMethodDescriptor yX7_wedding.desc).map (fun d => d.parameters.length) = some 0 := by decide +kernel
theorem sgV_X7_fault : yX7_fault.cls = RX7 ∧ yX7_fault.cls ≠ "java/lang/invoke/MethodHandle" ∧ yX7_fault.cls ≠ "java/lang/invoke/VarHandle" ∧ (parseMethodDescriptor yX7_fault.desc).map (fun d => d.parameters.length) = some 0 := by decide +kernel
theorem sgV_X7_isWedding : yX7_isWedding.cls = RX7 ∧ yX7_isWedding.cls ≠ "java/lang/invoke/MethodHandle" ∧ yX7_isWedding.cls ≠ "java/lang/invoke/VarHandle" ∧ (parseMethodDescriptor yX7_isWedding.desc).map (fun d => d.parameters.length) = some 0 := by decide +kernel
theorem sgV_X7_isGuest : yX7_isGuest.cls = RX7 ∧ yX7_isGuest.cls ≠ "java/lang/invoke/MethodHandle" ∧ yX7_isGuest.cls ≠ "java/lang/invoke/VarHandle" ∧ (parseMethodDescriptor yX7_isGuest.desc).map (fun d => d.parameters.length) = some 1 := by decide +kernel
theorem sgS_X7_inSeat : yX7_inSeat.cls ≠ "java/lang/invoke/MethodHandle" ∧ yX7_inSeat.cls ≠ "java/lang/invoke/VarHandle" ∧ (parseMethodDescriptor yX7_inSeat.desc).map (fun d => d.parameters.length) = some 2 := by decide +kernel
theorem sgS_X7_lastIn : yX7_lastIn.cls ≠ "java/lang/invoke/MethodHandle" ∧ yX7_lastIn.cls ≠ "java/lang/invoke/VarHandle" ∧ (parseMethodDescriptor yX7_lastIn.desc).map (fun d => d.parameters.length) = some 2 := by decide +kernel
theorem sgS_X7_would : yX7_would.cls ≠ "java/lang/invoke/MethodHandle" ∧ yX7_would.cls ≠ "java/lang/invoke/VarHandle" ∧ (parseMethodDescriptor yX7_would.desc).map (fun d => d.parameters.length) = some 2 := by decide +kernel
theorem sgV_X7_passes : yX7_passes.cls = RX7 ∧ yX7_passes.cls ≠ "java/lang/invoke/MethodHandle" ∧ yX7_passes.cls ≠ "java/lang/invoke/VarHandle" ∧ (parseMethodDescriptor yX7_passes.desc).map (fun d => d.parameters.length) = some 1 := by decide +kernel
theorem sgS_X7_hires : yX7_hires.cls ≠ "java/lang/invoke/MethodHandle" ∧ yX7_hires.cls ≠ "java/lang/invoke/VarHandle" ∧ (parseMethodDescriptor yX7_hires.desc).map (fun d => d.parameters.length) = some 3 := by decide +kernel
theorem sgS_X7_changes : yX7_changes.cls ≠ "java/lang/invoke/MethodHandle" ∧ yX7_changes.cls ≠ "java/lang/invoke/VarHandle" ∧ (parseMethodDescriptor yX7_changes.desc).map (fun d => d.parameters.length) = some 3 := by decide +kernel
theorem sgV_X7_hired : yX7_hired.cls = RX7 ∧ yX7_hired.cls ≠ "java/lang/invoke/MethodHandle" ∧ yX7_hired.cls ≠ "java/lang/invoke/VarHandle" ∧ (parseMethodDescriptor yX7_hired.desc).map (fun d => d.parameters.length) = some 0 := by decide +kernel
theorem sgV_X7_notes : yX7_notes.cls = RX7 ∧ yX7_notes.cls ≠ "java/lang/invoke/MethodHandle" ∧ yX7_notes.cls ≠ "java/lang/invoke/VarHandle" ∧ (parseMethodDescriptor yX7_notes.desc).map (fun d => d.parameters.length) = some 0 := by decide +kernel
theorem sgV_X7_minutes : yX7_minutes.cls = RX7 ∧ yX7_minutes.cls ≠ "java/lang/invoke/MethodHandle" ∧ yX7_minutes.cls ≠ "java/lang/invoke/VarHandle" ∧ (parseMethodDescriptor yX7_minutes.desc).map (fun d => d.parameters.length) = some 1 := by decide +kernel
theorem sgV_X7_hire : yX7_hire.cls = RX7 ∧ yX7_hire.cls ≠ "java/lang/invoke/MethodHandle" ∧ yX7_hire.cls ≠ "java/lang/invoke/VarHandle" ∧ (parseMethodDescriptor yX7_hire.desc).map (fun d => d.parameters.length) = some 2 := by decide +kernel
theorem sgV_X7_swap : yX7_swap.cls = RX7 ∧ yX7_swap.cls ≠ "java/lang/invoke/MethodHandle" ∧ yX7_swap.cls ≠ "java/lang/invoke/VarHandle" ∧ (parseMethodDescriptor yX7_swap.desc).map (fun d => d.parameters.length) = some 2 := by decide +kernel
theorem sgV_X7_hymns : yX7_hymns.cls = RX7 ∧ yX7_hymns.cls ≠ "java/lang/invoke/MethodHandle" ∧ yX7_hymns.cls ≠ "java/lang/invoke/VarHandle" ∧ (parseMethodDescriptor yX7_hymns.desc).map (fun d => d.parameters.length) = some 1 := by decide +kernel
theorem sgV_X7_undo : yX7_undo.cls = RX7 ∧ yX7_undo.cls ≠ "java/lang/invoke/MethodHandle" ∧ yX7_undo.cls ≠ "java/lang/invoke/VarHandle" ∧ (parseMethodDescriptor yX7_undo.desc).map (fun d => d.parameters.length) = some 0 := by decide +kernel
theorem sgV_X7_guest : yX7_guest.cls = RX7 ∧ yX7_guest.cls ≠ "java/lang/invoke/MethodHandle" ∧ yX7_guest.cls ≠ "java/lang/invoke/VarHandle" ∧ (parseMethodDescriptor yX7_guest.desc).map (fun d => d.parameters.length) = some 2 := by decide +kernel
theorem sgV_X7_seat : yX7_seat.cls = RX7 ∧ yX7_seat.cls ≠ "java/lang/invoke/MethodHandle" ∧ yX7_seat.cls ≠ "java/lang/invoke/VarHandle" ∧ (parseMethodDescriptor yX7_seat.desc).map (fun d => d.parameters.length) = some 1 := by decide +kernel
theorem sgV_X7_goesOn : yX7_goesOn.cls = RX7 ∧ yX7_goesOn.cls ≠ "java/lang/invoke/MethodHandle" ∧ yX7_goesOn.cls ≠ "java/lang/invoke/VarHandle" ∧ (parseMethodDescriptor yX7_goesOn.desc).map (fun d => d.parameters.length) = some 1 := by decide +kernel
theorem sgV_X7_ahead : yX7_ahead.cls = RX7 ∧ yX7_ahead.cls ≠ "java/lang/invoke/MethodHandle" ∧ yX7_ahead.cls ≠ "java/lang/invoke/VarHandle" ∧ (parseMethodDescriptor yX7_ahead.desc).map (fun d => d.parameters.length) = some 3 := by decide +kernel
theorem sgV_X7_bottle : yX7_bottle.cls = RX7 ∧ yX7_bottle.cls ≠ "java/lang/invoke/MethodHandle" ∧ yX7_bottle.cls ≠ "java/lang/invoke/VarHandle" ∧ (parseMethodDescriptor yX7_bottle.desc).map (fun d => d.parameters.length) = some 2 := by decide +kernel
theorem sgV_X7_filled : yX7_filled.cls = RX7 ∧ yX7_filled.cls ≠ "java/lang/invoke/MethodHandle" ∧ yX7_filled.cls ≠ "java/lang/invoke/VarHandle" ∧ (parseMethodDescriptor yX7_filled.desc).map (fun d => d.parameters.length) = some 0 := by decide +kernel
theorem sgV_X7_dry : yX7_dry.cls = RX7 ∧ yX7_dry.cls ≠ "java/lang/invoke/MethodHandle" ∧ yX7_dry.cls ≠ "java/lang/invoke/VarHandle" ∧ (parseMethodDescriptor yX7_dry.desc).map (fun d => d.parameters.length) = some 1 := by decide +kernel
theorem sgV_X7_triesBy : yX7_triesBy.cls = RX7 ∧ yX7_triesBy.cls ≠ "java/lang/invoke/MethodHandle" ∧ yX7_triesBy.cls ≠ "java/lang/invoke/VarHandle" ∧ (parseMethodDescriptor yX7_triesBy.desc).map (fun d => d.parameters.length) = some 1 := by decide +kernel
theorem sgV_X7_hiring : yX7_hiring.cls = RX7 ∧ yX7_hiring.cls ≠ "java/lang/invoke/MethodHandle" ∧ yX7_hiring.cls ≠ "java/lang/invoke/VarHandle" ∧ (parseMethodDescriptor yX7_hiring.desc).map (fun d => d.parameters.length) = some 2 := by decide +kernel
theorem sgV_X7_trades : yX7_trades.cls = RX7 ∧ yX7_trades.cls ≠ "java/lang/invoke/MethodHandle" ∧ yX7_trades.cls ≠ "java/lang/invoke/VarHandle" ∧ (parseMethodDescriptor yX7_trades.desc).map (fun d => d.parameters.length) = some 2 := by decide +kernel
theorem sgV_X7_orders : yX7_orders.cls = RX7 ∧ yX7_orders.cls ≠ "java/lang/invoke/MethodHandle" ∧ yX7_orders.cls ≠ "java/lang/invoke/VarHandle" ∧ (parseMethodDescriptor yX7_orders.desc).map (fun d => d.parameters.length) = some 0 := by decide +kernel
theorem sgV_X7_order : yX7_order.cls = RX7 ∧ yX7_order.cls ≠ "java/lang/invoke/MethodHandle" ∧ yX7_order.cls ≠ "java/lang/invoke/VarHandle" ∧ (parseMethodDescriptor yX7_order.desc).map (fun d => d.parameters.length) = some 2 := by decide +kernel
theorem sgV_X7_change : yX7_change.cls = RX7 ∧ yX7_change.cls ≠ "java/lang/invoke/MethodHandle" ∧ yX7_change.cls ≠ "java/lang/invoke/VarHandle" ∧ (parseMethodDescriptor yX7_change.desc).map (fun d => d.parameters.length) = some 2 := by decide +kernel
theorem sgV_X7_shedsSo : yX7_shedsSo.cls = RX7 ∧ yX7_shedsSo.cls ≠ "java/lang/invoke/MethodHandle" ∧ yX7_shedsSo.cls ≠ "java/lang/invoke/VarHandle" ∧ (parseMethodDescriptor yX7_shedsSo.desc).map (fun d => d.parameters.length) = some 5 := by decide +kernel
theorem sgV_X7_fits : yX7_fits.cls = RX7 ∧ yX7_fits.cls ≠ "java/lang/invoke/MethodHandle" ∧ yX7_fits.cls ≠ "java/lang/invoke/VarHandle" ∧ (parseMethodDescriptor yX7_fits.desc).map (fun d => d.parameters.length) = some 5 := by decide +kernel
theorem sgV_X7_away : yX7_away.cls = RX7 ∧ yX7_away.cls ≠ "java/lang/invoke/MethodHandle" ∧ yX7_away.cls ≠ "java/lang/invoke/VarHandle" ∧ (parseMethodDescriptor yX7_away.desc).map (fun d => d.parameters.length) = some 3 := by decide +kernel
theorem sgV_X7_drawn : yX7_drawn.cls = RX7 ∧ yX7_drawn.cls ≠ "java/lang/invoke/MethodHandle" ∧ yX7_drawn.cls ≠ "java/lang/invoke/VarHandle" ∧ (parseMethodDescriptor yX7_drawn.desc).map (fun d => d.parameters.length) = some 3 := by decide +kernel
theorem sgV_X7_image : yX7_image.cls = RX7 ∧ yX7_image.cls ≠ "java/lang/invoke/MethodHandle" ∧ yX7_image.cls ≠ "java/lang/invoke/VarHandle" ∧ (parseMethodDescriptor yX7_image.desc).map (fun d => d.parameters.length) = some 1 := by decide +kernel
theorem sgV_X7_restore : yX7_restore.cls = RX7 ∧ yX7_restore.cls ≠ "java/lang/invoke/MethodHandle" ∧ yX7_restore.cls ≠ "java/lang/invoke/VarHandle" ∧ (parseMethodDescriptor yX7_restore.desc).map (fun d => d.parameters.length) = some 1 := by decide +kernel
theorem sgV_X7_kindIn : yX7_kindIn.cls = RX7 ∧ yX7_kindIn.cls ≠ "java/lang/invoke/MethodHandle" ∧ yX7_kindIn.cls ≠ "java/lang/invoke/VarHandle" ∧ (parseMethodDescriptor yX7_kindIn.desc).map (fun d => d.parameters.length) = some 1 := by decide +kernel
theorem sgV_X7_kind : yX7_kind.cls = RX7 ∧ yX7_kind.cls ≠ "java/lang/invoke/MethodHandle" ∧ yX7_kind.cls ≠ "java/lang/invoke/VarHandle" ∧ (parseMethodDescriptor yX7_kind.desc).map (fun d => d.parameters.length) = some 1 := by decide +kernel
theorem sgV_X7_as : yX7_as.cls = RX7 ∧ yX7_as.cls ≠ "java/lang/invoke/MethodHandle" ∧ yX7_as.cls ≠ "java/lang/invoke/VarHandle" ∧ (parseMethodDescriptor yX7_as.desc).map (fun d => d.parameters.length) = some 2 := by decide +kernel
theorem sgV_X7_begins : yX7_begins.cls = RX7 ∧ yX7_begins.cls ≠ "java/lang/invoke/MethodHandle" ∧ yX7_begins.cls ≠ "java/lang/invoke/VarHandle" ∧ (parseMethodDescriptor yX7_begins.desc).map (fun d => d.parameters.length) = some 1 := by decide +kernel
theorem sgV_X7_auntMark : yX7_auntMark.cls = RX7 ∧ yX7_auntMark.cls ≠ "java/lang/invoke/MethodHandle" ∧ yX7_auntMark.cls ≠ "java/lang/invoke/VarHandle" ∧ (parseMethodDescriptor yX7_auntMark.desc).map (fun d => d.parameters.length) = some 1 := by decide +kernel
theorem sgV_X7_manSize : yX7_manSize.cls = RX7 ∧ yX7_manSize.cls ≠ "java/lang/invoke/MethodHandle" ∧ yX7_manSize.cls ≠ "java/lang/invoke/VarHandle" ∧ (parseMethodDescriptor yX7_manSize.desc).map (fun d => d.parameters.length) = some 1 := by decide +kernel
theorem sgV_X7_auntSize : yX7_auntSize.cls = RX7 ∧ yX7_auntSize.cls ≠ "java/lang/invoke/MethodHandle" ∧ yX7_auntSize.cls ≠ "java/lang/invoke/VarHandle" ∧ (parseMethodDescriptor yX7_auntSize.desc).map (fun d => d.parameters.length) = some 1 := by decide +kernel
theorem sgV_X7_manMark : yX7_manMark.cls = RX7 ∧ yX7_manMark.cls ≠ "java/lang/invoke/MethodHandle" ∧ yX7_manMark.cls ≠ "java/lang/invoke/VarHandle" ∧ (parseMethodDescriptor yX7_manMark.desc).map (fun d => d.parameters.length) = some 1 := by decide +kernel
theorem sgV_X7_ask : yX7_ask.cls = RX7 ∧ yX7_ask.cls ≠ "java/lang/invoke/MethodHandle" ∧ yX7_ask.cls ≠ "java/lang/invoke/VarHandle" ∧ (parseMethodDescriptor yX7_ask.desc).map (fun d => d.parameters.length) = some 2 := by decide +kernel
theorem sgV_X7_trace : yX7_trace.cls = RX7 ∧ yX7_trace.cls ≠ "java/lang/invoke/MethodHandle" ∧ yX7_trace.cls ≠ "java/lang/invoke/VarHandle" ∧ (parseMethodDescriptor yX7_trace.desc).map (fun d => d.parameters.length) = some 1 := by decide +kernel
theorem sgV_X7_count : yX7_count.cls = RX7 ∧ yX7_count.cls ≠ "java/lang/invoke/MethodHandle" ∧ yX7_count.cls ≠ "java/lang/invoke/VarHandle" ∧ (parseMethodDescriptor yX7_count.desc).map (fun d => d.parameters.length) = some 1 := by decide +kernel
theorem sgV_X7_status : yX7_status.cls = RX7 ∧ yX7_status.cls ≠ "java/lang/invoke/MethodHandle" ∧ yX7_status.cls ≠ "java/lang/invoke/VarHandle" ∧ (parseMethodDescriptor yX7_status.desc).map (fun d => d.parameters.length) = some 0 := by decide +kernel
