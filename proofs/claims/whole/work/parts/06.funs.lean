def f_X0_pack (w : k_M) (q : Nat) (a1 : Int32) (a2 : Int32) (a3 : Int32) (a4 : Int32) (a5 : Int32) : Option k_M :=
  k_lt (k_up w q 0 a1) fun w2 => k_lt (k_up w2 q 1 a2) fun w7 => k_lt (k_up w7 q 2 a3) fun w12 => k_lt (k_up w12 q 3 a4) fun w18 => k_lt (k_up w18 q 4 a5) fun w24 => k_lt (k_up w24 q 5 0) fun w29 => k_lt (k_up w29 q 6 0) fun w34 => k_lt (k_up w34 q 7 0) fun w39 => some w39
def f_X0_copyFrom (w : k_M) (o : k_M) (q : Nat) (q2 : Nat) : Option k_M :=
  k_lt (k_up w q 0 (o q2 0)) fun w5 => k_lt (k_up w5 q 1 (o q2 1)) fun w13 => k_lt (k_up w13 q 2 (o q2 2)) fun w21 => k_lt (k_up w21 q 3 (o q2 3)) fun w29 => k_lt (k_up w29 q 4 (o q2 4)) fun w37 => k_lt (k_up w37 q 5 (o q2 5)) fun w45 => k_ck ((o q2 6) = 0 ∨ (o q2 6) = 1) (k_lt (k_up w45 q 6 (o q2 6)) fun w53 => k_lt (k_up w53 q 7 (o q2 7)) fun w61 => some w61)
def f_X0_linesThere (w : k_M) (q : Nat) : Option Int32 :=
  some ((w q 1) - (w q 7))
def f_X0_strengthOf (w : k_M) (q : Nat) (a1 : Int32) : Option Int32 :=
  some ((w q 2) + (3 * a1))
def f_X0_hasFailed (w : k_M) (q : Nat) : Option Int32 :=
  (if (w q 5) = 2 then some 1 else (if (w q 5) = 3 then some 1 else some 0))
def f_X0_isPackedAndBelowCeiling (w : k_M) (q : Nat) (a1 : Int32) : Option Int32 :=
  (if (w q 5) = 0 then (if (w q 3) < a1 then some 0 else some 1) else some 0)
def f_X0_pull (w : k_M) (q : Nat) (a1 : Int32) (a2 : Int32) : Option Int64 :=
  some ((((((w q 0).toInt64) * a1.toInt64) * a2.toInt64) * a2.toInt64) / (10000 : Int64))
def f_X0_loadOfOneLine_27 (w : k_M) (q : Nat) (a3 : Int32) (a4 : Int32) (a1 : Int64) (a5 : Int32) (as0 : Int32) : Option Int64 :=
  k_lt (((a1 * ((100 + (5 * as0)).toInt64)) / (100 : Int64))) fun x43 => k_ck (¬ a5.toInt64 = 0) (some (((x43 + a5.toInt64) - (1 : Int64)) / a5.toInt64))
def f_X0_loadOfOneLine (w : k_M) (q : Nat) (a1 : Int64) (a3 : Int32) (a4 : Int32) : Option Int64 :=
  k_lt (((w q 1) - a4)) fun x7 => (if 1 ≤ x7 then (if 0 ≤ a3 then f_X0_loadOfOneLine_27 w q a3 a4 a1 x7 a3 else f_X0_loadOfOneLine_27 w q a3 a4 a1 x7 (-a3)) else some (0 : Int64))
def f_X0_linesThatTear_81 (w : k_M) (q : Nat) (a1 : Int64) (a3 : Int32) (a4 : Int32) (a5 : Int32) : Option Int32 :=
  some (a5 - (w q 7))
def f_X0_linesThatTear_78 (K9 : k_M → Nat → Int64 → Int32 → Int32 → Int32 → Int32 → Option Int32) (w : k_M) (q : Nat) (a1 : Int64) (a3 : Int32) (a4 : Int32) (a5 : Int32) (a6 : Int32) : Option Int32 :=
  K9 w q a1 a3 a4 a5 a6
def f_X0_linesThatTear_39_b (K9 : k_M → Nat → Int64 → Int32 → Int32 → Int32 → Int32 → Option Int32) (K39 : k_M → Nat → Int64 → Int32 → Int32 → Int32 → Int32 → Int64 → Option Int32) (w : k_M) (q : Nat) (a1 : Int64) (a3 : Int32) (a4 : Int32) (a5 : Int32) (a6 : Int32) (a7 : Int64) : Option Int32 :=
  (if (w q 1) ≤ a5 then f_X0_linesThatTear_78 K9 w q a1 a3 a4 a5 a6 else k_bd (f_X0_strengthOf w q a5) fun r51 => (if 0 ≤ (lg_cmp (((r51 * (1000 - a4)) / 1000).toInt64) a7) then f_X0_linesThatTear_78 K9 w q a1 a3 a4 a5 a6 else k_lt (a5 + 1) fun x72 => K39 w q a1 a3 a4 x72 a6 a7))
def f_X0_linesThatTear_39 (K9 : k_M → Nat → Int64 → Int32 → Int32 → Int32 → Int32 → Option Int32) : Nat → k_M → Nat → Int64 → Int32 → Int32 → Int32 → Int32 → Int64 → Option Int32
  | 0 => fun _ _ _ _ _ _ _ _ => none
  | n + 1 => fun w q a1 a3 a4 a5 a6 a7 => f_X0_linesThatTear_39_b K9 (f_X0_linesThatTear_39 K9 n) w q a1 a3 a4 a5 a6 a7
def f_X0_linesThatTear_9_b (K9 : k_M → Nat → Int64 → Int32 → Int32 → Int32 → Int32 → Option Int32) (w : k_M) (q : Nat) (a1 : Int64) (a3 : Int32) (a4 : Int32) (a5 : Int32) (a6 : Int32) : Option Int32 :=
  (if a5 ≤ a6 then f_X0_linesThatTear_81 w q a1 a3 a4 a5 else (if (w q 1) ≤ a5 then f_X0_linesThatTear_81 w q a1 a3 a4 a5 else k_bd (f_X0_loadOfOneLine w q a1 a3 a5) fun r34 => f_X0_linesThatTear_39 K9 k_N w q a1 a3 a4 a5 a5 r34))
def f_X0_linesThatTear_9 : Nat → k_M → Nat → Int64 → Int32 → Int32 → Int32 → Int32 → Option Int32
  | 0 => fun _ _ _ _ _ _ _ => none
  | n + 1 => fun w q a1 a3 a4 a5 a6 => f_X0_linesThatTear_9_b (f_X0_linesThatTear_9 n) w q a1 a3 a4 a5 a6
def f_X0_linesThatTear (w : k_M) (q : Nat) (a1 : Int64) (a3 : Int32) (a4 : Int32) : Option Int32 :=
  k_lt (w q 7) fun x4 => f_X0_linesThatTear_9 k_N w q a1 a3 a4 x4 (-1)
def f_X0_letter (w : k_M) (q : Nat) : Option Int32 :=
  (if (w q 5) = 0 then some 80 else (if (w q 5) = 1 then some 79 else (if (w q 5) = 2 then some 84 else (if (w q 5) = 3 then some 74 else some 67))))
def f_X1_copyFrom (w : k_M) (o : k_M) : Option k_M :=
  k_lt (k_cp w 14 (fun j => if j < 120 then o 14 j else w 14 j)) fun w12 => k_lt (k_up w12 13 1 (o 13 1)) fun w20 => k_lt (k_up w20 13 2 (o 13 2)) fun w28 => some w28
def f_X1_forget (w : k_M) : Option k_M :=
  k_lt (k_up w 13 1 0) fun w2 => k_lt (k_up w2 13 2 0) fun w7 => some w7
def f_X1_record (w : k_M) (a1 : Int32) (a2 : Int32) (a3 : Int32) (a4 : Int32) : Option k_M :=
  k_lt (((((w 13 1) + (w 13 2)) - ((w 13 1) + (w 13 2)) / 30 * 30) * 4)) fun x14 => k_ck (0 ≤ x14 ∧ x14 < 120) (k_lt (k_up w 14 x14.toNatClampNeg a1) fun w23 => k_ck (0 ≤ (x14 + 1) ∧ (x14 + 1) < 120) (k_lt (k_up w23 14 ((x14 + 1).toNatClampNeg) a2) fun w33 => k_ck (0 ≤ (x14 + 2) ∧ (x14 + 2) < 120) (k_lt (k_up w33 14 ((x14 + 2).toNatClampNeg) a3) fun w43 => k_ck (0 ≤ (x14 + 3) ∧ (x14 + 3) < 120) (k_lt (k_up w43 14 ((x14 + 3).toNatClampNeg) a4) fun w54 => (if 30 ≤ (w54 13 2) then k_lt (k_up w54 13 1 (((w54 13 1) + 1) - ((w54 13 1) + 1) / 30 * 30)) fun w87 => some w87 else k_lt (k_up w54 13 2 ((w54 13 2) + 1)) fun w71 => some w71)))))
def f_X1_partOf (w : k_M) (a1 : Int32) (a2 : Int32) : Option Int32 :=
  k_ck (0 ≤ (((((w 13 1) + a1) - ((w 13 1) + a1) / 30 * 30) * 4) + a2) ∧ (((((w 13 1) + a1) - ((w 13 1) + a1) / 30 * 30) * 4) + a2) < 120) (some (w 14 ((((((w 13 1) + a1) - ((w 13 1) + a1) / 30 * 30) * 4) + a2).toNatClampNeg)))
def f_X2_copyFrom (w : k_M) (o : k_M) (tc : Nat) : Option k_M :=
  k_lt (k_cp w (tc + 1) (fun j => if j < 8 then o (tc + 1) j else w (tc + 1) j)) fun w12 => k_lt (k_cp w12 (tc + 2) (fun j => if j < 8 then o (tc + 2) j else w12 (tc + 2) j)) fun w27 => k_lt (k_up w27 tc 2 (o tc 2)) fun w35 => some w35
def f_X2_placeOf_2_b (K2 : k_M → Nat → Int32 → Int32 → Option Int32) (w : k_M) (tc : Nat) (a1 : Int32) (a2 : Int32) : Option Int32 :=
  (if (w tc 2) ≤ a2 then some (-1) else k_ck (0 ≤ a2 ∧ a2 < 8) ((if (w (tc + 1) a2.toNatClampNeg) = a1 then some a2 else k_lt (a2 + 1) fun x22 => K2 w tc a1 x22)))
def f_X2_placeOf_2 : Nat → k_M → Nat → Int32 → Int32 → Option Int32
  | 0 => fun _ _ _ _ => none
  | n + 1 => fun w tc a1 a2 => f_X2_placeOf_2_b (f_X2_placeOf_2 n) w tc a1 a2
def f_X2_placeOf (w : k_M) (tc : Nat) (a1 : Int32) : Option Int32 :=
  f_X2_placeOf_2 k_N w tc a1 0
def f_X2_hasPlaceFor (w : k_M) (tc : Nat) (a1 : Int32) : Option Int32 :=
  (if (w tc 2) < 8 then some 1 else k_bd (f_X2_placeOf w tc a1) fun r11 => (if r11 = (-1) then some 0 else some 1))
def f_X2_put_35 (w : k_M) (tc : Nat) (a1 : Int32) (a2 : Int32) (a3 : Int32) : Option k_M :=
  (if a3 = (-1) then some w else k_ck (0 ≤ a3 ∧ a3 < 8) (k_lt (k_up w (tc + 1) a3.toNatClampNeg a1) fun w46 => k_ck (0 ≤ a3 ∧ a3 < 8) (k_lt (k_up w46 (tc + 2) a3.toNatClampNeg a2) fun w53 => some w53)))
def f_X2_put (w : k_M) (tc : Nat) (a1 : Int32) (a2 : Int32) : Option k_M :=
  k_bd (f_X2_placeOf w tc a1) fun r2 => (if r2 = (-1) then (if 8 ≤ (w tc 2) then f_X2_put_35 w tc a1 a2 r2 else k_lt (w tc 2) fun x24 => k_lt (k_up w tc 2 ((w tc 2) + 1)) fun w32 => f_X2_put_35 w32 tc a1 a2 x24) else f_X2_put_35 w tc a1 a2 r2)
def f_X2_valueAtOrAbove_49 (K5 : k_M → Nat → Int32 → Int32 → Int32 → Int32 → Option Int32) (w : k_M) (tc : Nat) (a1 : Int32) (a2 : Int32) (a3 : Int32) (a4 : Int32) : Option Int32 :=
  k_lt (a4 + 1) fun x49 => K5 w tc a1 a2 a3 x49
def f_X2_valueAtOrAbove_46 (K5 : k_M → Nat → Int32 → Int32 → Int32 → Int32 → Option Int32) (w : k_M) (tc : Nat) (a1 : Int32) (a2 : Int32) (a4 : Int32) : Option Int32 :=
  f_X2_valueAtOrAbove_49 K5 w tc a1 a2 a4 a4
def f_X2_valueAtOrAbove_5_b (K5 : k_M → Nat → Int32 → Int32 → Int32 → Int32 → Option Int32) (w : k_M) (tc : Nat) (a1 : Int32) (a2 : Int32) (a3 : Int32) (a4 : Int32) : Option Int32 :=
  (if (w tc 2) ≤ a4 then (if a3 = (-1) then some a2 else k_ck (0 ≤ a3 ∧ a3 < 8) (some (w (tc + 2) a3.toNatClampNeg))) else k_ck (0 ≤ a4 ∧ a4 < 8) ((if (w (tc + 1) a4.toNatClampNeg) < a1 then f_X2_valueAtOrAbove_49 K5 w tc a1 a2 a3 a4 else (if a3 = (-1) then f_X2_valueAtOrAbove_46 K5 w tc a1 a2 a4 else k_ck (0 ≤ a4 ∧ a4 < 8) (k_ck (0 ≤ a3 ∧ a3 < 8) ((if (w (tc + 1) a3.toNatClampNeg) ≤ (w (tc + 1) a4.toNatClampNeg) then f_X2_valueAtOrAbove_49 K5 w tc a1 a2 a3 a4 else f_X2_valueAtOrAbove_46 K5 w tc a1 a2 a4)))))))
def f_X2_valueAtOrAbove_5 : Nat → k_M → Nat → Int32 → Int32 → Int32 → Int32 → Option Int32
  | 0 => fun _ _ _ _ _ _ => none
  | n + 1 => fun w tc a1 a2 a3 a4 => f_X2_valueAtOrAbove_5_b (f_X2_valueAtOrAbove_5 n) w tc a1 a2 a3 a4
def f_X2_valueAtOrAbove (w : k_M) (tc : Nat) (a1 : Int32) (a2 : Int32) : Option Int32 :=
  f_X2_valueAtOrAbove_5 k_N w tc a1 a2 (-1) 0
def f_X2_valueAtOrBelow_49 (K5 : k_M → Nat → Int32 → Int32 → Int32 → Int32 → Option Int32) (w : k_M) (tc : Nat) (a1 : Int32) (a2 : Int32) (a3 : Int32) (a4 : Int32) : Option Int32 :=
  k_lt (a4 + 1) fun x49 => K5 w tc a1 a2 a3 x49
def f_X2_valueAtOrBelow_46 (K5 : k_M → Nat → Int32 → Int32 → Int32 → Int32 → Option Int32) (w : k_M) (tc : Nat) (a1 : Int32) (a2 : Int32) (a4 : Int32) : Option Int32 :=
  f_X2_valueAtOrBelow_49 K5 w tc a1 a2 a4 a4
def f_X2_valueAtOrBelow_5_b (K5 : k_M → Nat → Int32 → Int32 → Int32 → Int32 → Option Int32) (w : k_M) (tc : Nat) (a1 : Int32) (a2 : Int32) (a3 : Int32) (a4 : Int32) : Option Int32 :=
  (if (w tc 2) ≤ a4 then (if a3 = (-1) then some a2 else k_ck (0 ≤ a3 ∧ a3 < 8) (some (w (tc + 2) a3.toNatClampNeg))) else k_ck (0 ≤ a4 ∧ a4 < 8) ((if a1 < (w (tc + 1) a4.toNatClampNeg) then f_X2_valueAtOrBelow_49 K5 w tc a1 a2 a3 a4 else (if a3 = (-1) then f_X2_valueAtOrBelow_46 K5 w tc a1 a2 a4 else k_ck (0 ≤ a4 ∧ a4 < 8) (k_ck (0 ≤ a3 ∧ a3 < 8) ((if (w (tc + 1) a4.toNatClampNeg) ≤ (w (tc + 1) a3.toNatClampNeg) then f_X2_valueAtOrBelow_49 K5 w tc a1 a2 a3 a4 else f_X2_valueAtOrBelow_46 K5 w tc a1 a2 a4)))))))
def f_X2_valueAtOrBelow_5 : Nat → k_M → Nat → Int32 → Int32 → Int32 → Int32 → Option Int32
  | 0 => fun _ _ _ _ _ _ => none
  | n + 1 => fun w tc a1 a2 a3 a4 => f_X2_valueAtOrBelow_5_b (f_X2_valueAtOrBelow_5 n) w tc a1 a2 a3 a4
def f_X2_valueAtOrBelow (w : k_M) (tc : Nat) (a1 : Int32) (a2 : Int32) : Option Int32 :=
  f_X2_valueAtOrBelow_5 k_N w tc a1 a2 (-1) 0
def f_X7_wipe (w : k_M) : Option k_M :=
  k_lt (k_up w 0 1 0) fun w2 => some w2
def f_X7_put (w : k_M) (a1 : Int32) : Option k_M :=
  (if 64 ≤ (w 0 1) then some w else k_ck (0 ≤ (w 0 1) ∧ (w 0 1) < 64) (k_lt (k_up w 1 ((w 0 1).toNatClampNeg) a1) fun w18 => k_lt (k_up w18 0 1 ((w18 0 1) + 1)) fun w26 => some w26))
def f_X7_putNumber_21 (w : k_M) (a1 : Int32) : Option k_M :=
  k_bd (f_X7_put w (((48 + (a1 - a1 / 10 * 10)).toUInt32 % 65536).toInt32)) fun r30 => some r30
def f_X7_putNumber (w : k_M) (a1 : Int32) : Option k_M :=
  (if a1 < 10 then f_X7_putNumber_21 w a1 else k_bd (f_X7_put w (((48 + ((a1 / 10) - (a1 / 10) / 10 * 10)).toUInt32 % 65536).toInt32)) fun r18 => f_X7_putNumber_21 r18 a1)
def f_X8_copyFrom (w : k_M) (o : k_M) : Option k_M :=
  k_lt (k_cp w 10 (fun j => if j < 8 then o 10 j else w 10 j)) fun w12 => k_lt (k_cp w12 11 (fun j => if j < 8 then o 11 j else w12 11 j)) fun w27 => k_lt (k_cp w27 12 (fun j => if j < 8 then o 12 j else w27 12 j)) fun w42 => k_lt (k_up w42 9 3 (o 9 3)) fun w50 => some w50
def f_X8_has (w : k_M) (a1 : Int32) : Option Int32 :=
  (if a1 < 0 then some 0 else (if (w 9 3) ≤ a1 then some 0 else some 1))
def f_X8_add (w : k_M) (a1 : Int32) (a2 : Int32) (a3 : Int32) : Option k_M :=
  (if 8 ≤ (w 9 3) then some w else k_ck (0 ≤ (w 9 3) ∧ (w 9 3) < 8) (k_lt (k_up w 10 ((w 9 3).toNatClampNeg) a1) fun w18 => k_ck (0 ≤ (w18 9 3) ∧ (w18 9 3) < 8) (k_lt (k_up w18 11 ((w18 9 3).toNatClampNeg) a2) fun w28 => k_ck (0 ≤ (w28 9 3) ∧ (w28 9 3) < 8) (k_lt (k_up w28 12 ((w28 9 3).toNatClampNeg) a3) fun w38 => k_lt (k_up w38 9 3 ((w38 9 3) + 1)) fun w46 => some w46))))
def f_X8_distanceTo (w : k_M) (a1 : Int32) (a2 : Int32) : Option Int32 :=
  k_ck (0 ≤ a1 ∧ a1 < 8) ((if (w 10 a1.toNatClampNeg) ≤ a2 then k_ck (0 ≤ a1 ∧ a1 < 8) ((if a2 ≤ (w 11 a1.toNatClampNeg) then some 0 else k_ck (0 ≤ a1 ∧ a1 < 8) (some (a2 - (w 11 a1.toNatClampNeg))))) else k_ck (0 ≤ a1 ∧ a1 < 8) (some ((w 10 a1.toNatClampNeg) - a2))))
def f_X8_firstWith_2_b (K2 : k_M → Int32 → Int32 → Option Int32) (w : k_M) (a1 : Int32) (a2 : Int32) : Option Int32 :=
  (if (w 9 3) ≤ a2 then some (-1) else k_bd (f_X8_distanceTo w a2 a1) fun r13 => (if r13 = 0 then some a2 else k_lt (a2 + 1) fun x21 => K2 w a1 x21))
def f_X8_firstWith_2 : Nat → k_M → Int32 → Int32 → Option Int32
  | 0 => fun _ _ _ => none
  | n + 1 => fun w a1 a2 => f_X8_firstWith_2_b (f_X8_firstWith_2 n) w a1 a2
def f_X8_firstWith (w : k_M) (a1 : Int32) : Option Int32 :=
  f_X8_firstWith_2 k_N w a1 0
def f_X8_allWith_27 (K4 : k_M → Int32 → Int32 → Int32 → Option Int32) (w : k_M) (a1 : Int32) (a2 : Int32) (a3 : Int32) : Option Int32 :=
  k_lt (a3 + 1) fun x27 => K4 w a1 a2 x27
def f_X8_allWith_4_b (K4 : k_M → Int32 → Int32 → Int32 → Option Int32) (w : k_M) (a1 : Int32) (a2 : Int32) (a3 : Int32) : Option Int32 :=
  (if (w 9 3) ≤ a3 then some a2 else k_bd (f_X8_distanceTo w a3 a1) fun r15 => (if r15 = 0 then k_lt ((a2 ||| (1 <<< (a3 &&& 31)))) fun x26 => f_X8_allWith_27 K4 w a1 x26 a3 else f_X8_allWith_27 K4 w a1 a2 a3))
def f_X8_allWith_4 : Nat → k_M → Int32 → Int32 → Int32 → Option Int32
  | 0 => fun _ _ _ _ => none
  | n + 1 => fun w a1 a2 a3 => f_X8_allWith_4_b (f_X8_allWith_4 n) w a1 a2 a3
def f_X8_allWith (w : k_M) (a1 : Int32) : Option Int32 :=
  f_X8_allWith_4 k_N w a1 0 0
def f_X9_begin (w : k_M) (a1 : Int32) (a2 : Int32) (a3 : Int32) : Option k_M :=
  k_lt (k_up w 0 0 a1) fun w2 => k_lt (k_up w2 0 1 a2) fun w7 => k_lt (k_up w7 0 3 a3) fun w12 => k_lt (k_up w12 0 2 0) fun w17 => k_lt (k_up w17 0 4 0) fun w22 => k_lt (k_up w22 0 5 0) fun w27 => k_lt (k_up w27 0 6 0) fun w32 => k_lt (k_up w32 0 7 20) fun w38 => k_lt (k_up w38 0 8 0) fun w43 => k_lt (k_up w43 0 9 0) fun w48 => k_lt (k_up w48 0 10 0) fun w53 => k_lt (k_up w53 0 11 0) fun w58 => k_lt (k_up w58 3 2 0) fun w66 => k_lt (k_up w66 6 2 0) fun w74 => k_lt (k_up w74 9 3 0) fun w82 => k_bd (f_X1_forget w82) fun r89 => some r89
def f_X9_copyFrom_98_b (K98 : k_M → k_M → Int32 → Option k_M) (w : k_M) (o : k_M) (a2 : Int32) : Option k_M :=
  (if (w 0 10) ≤ a2 then k_bd (f_X0_copyFrom w o 2 2) fun r135 => k_bd (f_X2_copyFrom r135 o 3) fun r146 => k_bd (f_X2_copyFrom r146 o 6) fun r157 => k_bd (f_X8_copyFrom r157 o) fun r168 => k_bd (f_X1_copyFrom r168 o) fun r179 => some r179 else k_ck (0 ≤ a2 ∧ a2 < 8) (k_ck (0 ≤ a2 ∧ a2 < 8) (k_bd (f_X0_copyFrom w o (15 + a2.toNatClampNeg) (15 + a2.toNatClampNeg)) fun r118 => k_lt (a2 + 1) fun x121 => K98 r118 o x121)))
def f_X9_copyFrom_98 : Nat → k_M → k_M → Int32 → Option k_M
  | 0 => fun _ _ _ => none
  | n + 1 => fun w o a2 => f_X9_copyFrom_98_b (f_X9_copyFrom_98 n) w o a2
def f_X9_copyFrom (w : k_M) (o : k_M) : Option k_M :=
  k_lt (k_up w 0 0 (o 0 0)) fun w5 => k_lt (k_up w5 0 1 (o 0 1)) fun w13 => k_lt (k_up w13 0 2 (o 0 2)) fun w21 => k_lt (k_up w21 0 3 (o 0 3)) fun w29 => k_lt (k_up w29 0 4 (o 0 4)) fun w37 => k_lt (k_up w37 0 5 (o 0 5)) fun w45 => k_lt (k_up w45 0 6 (o 0 6)) fun w53 => k_lt (k_up w53 0 7 (o 0 7)) fun w61 => k_lt (k_up w61 0 8 (o 0 8)) fun w69 => k_lt (k_up w69 0 9 (o 0 9)) fun w77 => k_lt (k_up w77 0 10 (o 0 10)) fun w85 => k_ck ((o 0 11) = 0 ∨ (o 0 11) = 1) (k_lt (k_up w85 0 11 (o 0 11)) fun w93 => f_X9_copyFrom_98 k_N w93 o 0)
def f_X9_chuteCount (w : k_M) : Option Int32 :=
  (if (w 0 11) = 0 then some (w 0 10) else some ((w 0 10) + 1))
def f_X9_hasLayer (w : k_M) (a1 : Int32) : Option Int32 :=
  (if a1 < 0 then some 0 else (if (w 0 10) ≤ a1 then some 0 else some 1))
def f_X9_hasChute (w : k_M) (a1 : Int32) : Option Int32 :=
  (if a1 < 0 then some 0 else k_bd (f_X9_chuteCount w) fun r6 => (if r6 ≤ a1 then some 0 else some 1))
def f_X9_chuteAt (w : k_M) (a1 : Int32) : Option Nat :=
  k_bd (f_X9_hasLayer w a1) fun r2 => (if r2 = 0 then some 2 else k_ck (0 ≤ a1 ∧ a1 < 8) (some (15 + a1.toNatClampNeg)))
def f_X9_hasLanded (w : k_M) : Option Int32 :=
  (if (w 0 0) = 0 then some 1 else some 0)
def f_X9_air (w : k_M) : Option Int32 :=
  some (100 - ((w 0 0) / 400))
def f_X9_asksForBrakes (w : k_M) : Option Int32 :=
  k_bd (f_X2_valueAtOrAbove w 3 (w 0 0) (-1)) fun r9 => (if r9 = (-1) then some 0 else (if (w 0 1) ≤ r9 then some 0 else some 1))
def f_X9_openChutes_29 (K9 : k_M → Int32 → Int32 → Int32 → Option Int32) (w : k_M) (a1 : Int32) (a2 : Int32) (a3 : Int32) : Option Int32 :=
  k_lt (a3 + 1) fun x29 => K9 w a1 a2 x29
def f_X9_openChutes_9_b (K9 : k_M → Int32 → Int32 → Int32 → Option Int32) (w : k_M) (a1 : Int32) (a2 : Int32) (a3 : Int32) : Option Int32 :=
  (if a2 ≤ a3 then some a1 else k_bd (f_X9_chuteAt w a3) fun r16 => k_ck (r16 = 2 ∨ (15 ≤ r16 ∧ r16 < 23)) ((if (w r16 5) = 1 then k_lt (a1 + 1) fun x26 => f_X9_openChutes_29 K9 w x26 a2 a3 else f_X9_openChutes_29 K9 w a1 a2 a3)))
def f_X9_openChutes_9 : Nat → k_M → Int32 → Int32 → Int32 → Option Int32
  | 0 => fun _ _ _ _ => none
  | n + 1 => fun w a1 a2 a3 => f_X9_openChutes_9_b (f_X9_openChutes_9 n) w a1 a2 a3
def f_X9_openChutes (w : k_M) : Option Int32 :=
  k_bd (f_X9_chuteCount w) fun r3 => f_X9_openChutes_9 k_N w 0 r3 0
def f_X9_failedLayers_27 (K4 : k_M → Int32 → Int32 → Option Int32) (w : k_M) (a1 : Int32) (a2 : Int32) : Option Int32 :=
  k_lt (a2 + 1) fun x27 => K4 w a1 x27
def f_X9_failedLayers_4_b (K4 : k_M → Int32 → Int32 → Option Int32) (w : k_M) (a1 : Int32) (a2 : Int32) : Option Int32 :=
  (if (w 0 10) ≤ a2 then some a1 else k_ck (0 ≤ a2 ∧ a2 < 8) (k_bd (f_X0_hasFailed w (15 + a2.toNatClampNeg)) fun r18 => (if r18 = 0 then f_X9_failedLayers_27 K4 w a1 a2 else k_lt (a1 + 1) fun x24 => f_X9_failedLayers_27 K4 w x24 a2)))
def f_X9_failedLayers_4 : Nat → k_M → Int32 → Int32 → Option Int32
  | 0 => fun _ _ _ => none
  | n + 1 => fun w a1 a2 => f_X9_failedLayers_4_b (f_X9_failedLayers_4 n) w a1 a2
def f_X9_failedLayers (w : k_M) : Option Int32 :=
  f_X9_failedLayers_4 k_N w 0 0
def f_X9_packedJammedLayers_39 (K4 : k_M → Int32 → Int32 → Option Int32) (w : k_M) (a1 : Int32) (a2 : Int32) : Option Int32 :=
  k_lt (a2 + 1) fun x39 => K4 w a1 x39
def f_X9_packedJammedLayers_4_b (K4 : k_M → Int32 → Int32 → Option Int32) (w : k_M) (a1 : Int32) (a2 : Int32) : Option Int32 :=
  (if (w 0 10) ≤ a2 then some a1 else k_ck (0 ≤ a2 ∧ a2 < 8) ((if (w (15 + a2.toNatClampNeg) 5) = 0 then k_ck (0 ≤ a2 ∧ a2 < 8) ((if (w (15 + a2.toNatClampNeg) 6) = 0 then f_X9_packedJammedLayers_39 K4 w a1 a2 else k_lt (a1 + 1) fun x36 => f_X9_packedJammedLayers_39 K4 w x36 a2)) else f_X9_packedJammedLayers_39 K4 w a1 a2)))
def f_X9_packedJammedLayers_4 : Nat → k_M → Int32 → Int32 → Option Int32
  | 0 => fun _ _ _ => none
  | n + 1 => fun w a1 a2 => f_X9_packedJammedLayers_4_b (f_X9_packedJammedLayers_4 n) w a1 a2
def f_X9_packedJammedLayers (w : k_M) : Option Int32 :=
  f_X9_packedJammedLayers_4 k_N w 0 0
def f_X9_countLines_66 (K16 : k_M → Int32 → Int32 → Int32 → Int32 → Int32 → Int32 → Option Int32) (w : k_M) (a1 : Int32) (a2 : Int32) (a3 : Int32) (a4 : Int32) (a5 : Int32) (a6 : Int32) : Option Int32 :=
  k_lt (a6 + 1) fun x66 => K16 w a1 a2 a3 a4 a5 x66
def f_X9_countLines_16_b (K16 : k_M → Int32 → Int32 → Int32 → Int32 → Int32 → Int32 → Option Int32) (w : k_M) (a1 : Int32) (a2 : Int32) (a3 : Int32) (a4 : Int32) (a5 : Int32) (a6 : Int32) : Option Int32 :=
  (if a5 ≤ a6 then (if a1 = 10 then some a2 else (if a1 = 11 then some ((a2 - a3) - a4) else (if a1 = 12 then some a3 else some a4))) else k_bd (f_X9_chuteAt w a6) fun r26 => k_ck (r26 = 2 ∨ (15 ≤ r26 ∧ r26 < 23)) (k_lt ((a2 + (w r26 1))) fun x38 => k_lt ((a3 + (w r26 7))) fun x46 => (if (w r26 5) = 4 then k_bd (f_X0_linesThere w r26) fun r60 => k_lt ((a4 + r60)) fun x64 => f_X9_countLines_66 K16 w a1 x38 x46 x64 a5 a6 else f_X9_countLines_66 K16 w a1 x38 x46 a4 a5 a6)))
def f_X9_countLines_16 : Nat → k_M → Int32 → Int32 → Int32 → Int32 → Int32 → Int32 → Option Int32
  | 0 => fun _ _ _ _ _ _ _ => none
  | n + 1 => fun w a1 a2 a3 a4 a5 a6 => f_X9_countLines_16_b (f_X9_countLines_16 n) w a1 a2 a3 a4 a5 a6
def f_X9_countLines (w : k_M) (a1 : Int32) : Option Int32 :=
  k_bd (f_X9_chuteCount w) fun r8 => f_X9_countLines_16 k_N w a1 0 0 0 r8 0
def f_X9_firstLayerThatMayOpen_44 (K2 : k_M → Int32 → Option Int32) (w : k_M) (a1 : Int32) : Option Int32 :=
  k_lt (a1 + 1) fun x44 => K2 w x44
def f_X9_firstLayerThatMayOpen_2_b (K2 : k_M → Int32 → Option Int32) (w : k_M) (a1 : Int32) : Option Int32 :=
  (if (w 0 10) ≤ a1 then some (-1) else k_ck (0 ≤ a1 ∧ a1 < 8) (k_bd (f_X0_isPackedAndBelowCeiling w (15 + a1.toNatClampNeg) (w 0 0)) fun r20 => (if r20 = 0 then f_X9_firstLayerThatMayOpen_44 K2 w a1 else k_ck (0 ≤ a1 ∧ a1 < 8) ((if (w (15 + a1.toNatClampNeg) 4) < (w 0 1) then f_X9_firstLayerThatMayOpen_44 K2 w a1 else some a1)))))
def f_X9_firstLayerThatMayOpen_2 : Nat → k_M → Int32 → Option Int32
  | 0 => fun _ _ => none
  | n + 1 => fun w a1 => f_X9_firstLayerThatMayOpen_2_b (f_X9_firstLayerThatMayOpen_2 n) w a1
def f_X9_firstLayerThatMayOpen (w : k_M) : Option Int32 :=
  f_X9_firstLayerThatMayOpen_2 k_N w 0
def f_X9_whyLayer (w : k_M) (a1 : Int32) : Option Int32 :=
  k_ck (0 ≤ a1 ∧ a1 < 8) ((if (w (15 + a1.toNatClampNeg) 5) = 1 then some 0 else (if (w (15 + a1.toNatClampNeg) 5) = 2 then some 1 else (if (w (15 + a1.toNatClampNeg) 5) = 3 then some 2 else (if (w (15 + a1.toNatClampNeg) 5) = 4 then some 3 else (if (w 0 0) ≤ (w (15 + a1.toNatClampNeg) 3) then (if (w 0 1) ≤ (w (15 + a1.toNatClampNeg) 4) then k_bd (f_X9_asksForBrakes w) fun r75 => (if r75 = 0 then some 6 else k_bd (f_X9_firstLayerThatMayOpen w) fun r85 => (if a1 ≤ r85 then some 8 else some 7)) else some 5) else some 4))))))
def f_X9_whyOfReserve (w : k_M) : Option Int32 :=
  (if (w 0 11) = 0 then some 1 else (if (w 2 5) = 1 then some 0 else (if (w 2 5) = 0 then (if (w 0 0) ≤ (w 2 3) then k_bd (f_X9_failedLayers w) fun r51 => (if (w 2 4) ≤ r51 then k_bd (f_X9_firstLayerThatMayOpen w) fun r67 => (if r67 = (-1) then k_bd (f_X9_asksForBrakes w) fun r77 => (if r77 = 0 then some 6 else some 7) else some 5) else some 4) else some 3) else some 2)))
def f_X9_openLayer (w : k_M) (a1 : Int32) : Option k_M :=
  k_ck (0 ≤ a1 ∧ a1 < 8) ((if (w (15 + a1.toNatClampNeg) 6) = 0 then k_lt (k_up w (15 + a1.toNatClampNeg) 5 1) fun w41 => k_bd (f_X1_record w41 (w41 0 6) 0 a1 (w41 0 1)) fun r58 => some r58 else k_lt (k_up w (15 + a1.toNatClampNeg) 5 3) fun w16 => k_bd (f_X1_record w16 (w16 0 6) 3 a1 (w16 0 1)) fun r33 => some r33))
def f_X9_openTheReserve (w : k_M) (a1 : Int32) : Option k_M :=
  k_lt (k_up w 2 5 1) fun w5 => k_bd (f_X1_record w5 (w5 0 6) 4 (w5 0 10) a1) fun r22 => some r22
def f_X9_cutAway (w : k_M) (a1 : Int32) : Option k_M :=
  k_bd (f_X9_chuteAt w a1) fun r2 => k_ck (r2 = 2 ∨ (15 ≤ r2 ∧ r2 < 23)) (k_lt (k_up w r2 5 4) fun w8 => k_bd (f_X0_linesThere w8 r2) fun r22 => k_bd (f_X1_record w8 (w8 0 6) 5 a1 r22) fun r25 => some r25)
def f_X9_openWhatMay (w : k_M) : Option k_M :=
  k_bd (f_X9_firstLayerThatMayOpen w) fun r1 => k_bd (f_X9_failedLayers w) fun r6 => (if r1 = (-1) then (if (w 0 11) = 0 then some w else k_bd (f_X0_isPackedAndBelowCeiling w 2 (w 0 0)) fun r38 => (if r38 = 0 then some w else (if r6 < (w 2 4) then some w else k_bd (f_X9_openTheReserve w r6) fun r57 => some r57))) else k_bd (f_X9_openLayer w r1) fun r17 => some r17)
def f_X9_tear (w : k_M) (q1 : Nat) (a2 : Int32) (a3 : Int32) : Option k_M :=
  k_lt (k_up w q1 7 ((w q1 7) + a3)) fun w7 => k_bd (f_X1_record w7 (w7 0 6) 1 a2 a3) fun r21 => k_bd (f_X0_linesThere r21 q1) fun r25 => (if r25 = 0 then k_lt (k_up r21 q1 5 2) fun w33 => k_bd (f_X1_record w33 (w33 0 6) 2 a2 (w33 q1 0)) fun r50 => some r50 else some r21)
def f_X9_tearAndBrake_118 (K32 : k_M → Int32 → Int64 → Int32 → Int32 → Option (k_M × Int64)) (w : k_M) (a1 : Int32) (a2 : Int64) (a4 : Int32) (a5 : Int32) : Option (k_M × Int64) :=
  k_lt (a5 + 1) fun x118 => K32 w a1 a2 a4 x118
def f_X9_tearAndBrake_116 (K32 : k_M → Int32 → Int64 → Int32 → Int32 → Option (k_M × Int64)) (w : k_M) (a1 : Int32) (a4 : Int32) (a5 : Int32) (as0 : Int64) (as1 : Int64) : Option (k_M × Int64) :=
  k_lt ((as1 + as0)) fun x117 => f_X9_tearAndBrake_118 K32 w a1 x117 a4 a5
def f_X9_tearAndBrake_100 (K32 : k_M → Int32 → Int64 → Int32 → Int32 → Option (k_M × Int64)) (w : k_M) (a1 : Int32) (a2 : Int64) (a4 : Int32) (a5 : Int32) (q6 : Nat) (a7 : Int64) : Option (k_M × Int64) :=
  (if (w q6 5) = 1 then f_X9_tearAndBrake_116 K32 w a1 a4 a5 a7 a2 else f_X9_tearAndBrake_116 K32 w a1 a4 a5 (0 : Int64) a2)
def f_X9_tearAndBrake_32_b (K32 : k_M → Int32 → Int64 → Int32 → Int32 → Option (k_M × Int64)) (w : k_M) (a1 : Int32) (a2 : Int64) (a4 : Int32) (a5 : Int32) : Option (k_M × Int64) :=
  (if a4 ≤ a5 then some (w, a2) else k_bd (f_X9_chuteAt w a5) fun r42 => k_ck (r42 = 2 ∨ (15 ≤ r42 ∧ r42 < 23)) ((if (w r42 5) = 1 then k_bd (f_X0_pull w r42 a1 (w 0 1)) fun r63 => k_bd (f_X0_linesThatTear w r42 r63 (w 0 5) (w 0 4)) fun r80 => (if r80 ≤ 0 then f_X9_tearAndBrake_100 K32 w a1 a2 a4 a5 r42 r63 else k_bd (f_X9_tear w r42 a5 r80) fun r97 => f_X9_tearAndBrake_100 K32 r97 a1 a2 a4 a5 r42 r63) else f_X9_tearAndBrake_118 K32 w a1 a2 a4 a5)))
def f_X9_tearAndBrake_32 : Nat → k_M → Int32 → Int64 → Int32 → Int32 → Option (k_M × Int64)
  | 0 => fun _ _ _ _ _ => none
  | n + 1 => fun w a1 a2 a4 a5 => f_X9_tearAndBrake_32_b (f_X9_tearAndBrake_32 n) w a1 a2 a4 a5
def f_X9_tearAndBrake (w : k_M) (a1 : Int32) : Option (k_M × Int64) :=
  k_lt ((((((2 : Int64) * a1.toInt64) * ((w 0 1).toInt64)) * ((w 0 1).toInt64)) / (10000 : Int64))) fun x22 => k_bd (f_X9_chuteCount w) fun r24 => f_X9_tearAndBrake_32 k_N w a1 x22 r24 0
def f_X9_landingResult (w : k_M) : Option Int32 :=
  k_bd (f_X9_hasLanded w) fun r1 => (if r1 = 0 then some 0 else k_bd (f_X8_firstWith w (w 0 2)) fun r17 => (if r17 = (-1) then some 3 else k_ck (0 ≤ r17 ∧ r17 < 8) ((if (w 12 r17.toNatClampNeg) < (w 0 1) then some 2 else some 1))))
def f_X9_passSecond_211 (w : k_M) : Option k_M :=
  k_lt (k_up w 0 6 ((w 0 6) + 1)) fun w218 => some w218
def f_X9_passSecond_151 (w : k_M) : Option k_M :=
  k_lt ((k_mini (w 0 1) (w 0 0))) fun x162 => k_lt (k_up w 0 0 ((w 0 0) - x162)) fun w172 => k_lt (k_up w172 0 8 ((w172 0 8) + x162)) fun w183 => k_bd (f_X9_hasLanded w183) fun r187 => (if r187 = 0 then f_X9_passSecond_211 w183 else k_bd (f_X9_landingResult w183) fun r205 => k_bd (f_X1_record w183 (w183 0 6) 6 (-1) r205) fun r208 => f_X9_passSecond_211 r208)
def f_X9_passSecond_16 (w : k_M) (a1 : Int32) : Option k_M :=
  k_bd (f_X9_tearAndBrake w a1) fun r18 => k_ck (¬ ((r18.1 0 3).toInt64) = 0) (k_lt (((((r18.1 0 1) + 10).toInt64) - (r18.2 / ((r18.1 0 3).toInt64))).toInt32) fun x39 => k_lt (k_up r18.1 0 1 (k_maxi (k_maxi x39 ((r18.1 0 1) / 2)) 1)) fun w57 => k_lt ((((((w57 0 1).toInt64) * ((w57 0 1).toInt64)) * a1.toInt64) / (100000 : Int64)).toInt32) fun x79 => k_lt (k_up w57 0 9 ((w57 0 9) + x79)) fun w89 => k_lt (k_up w89 0 4 (k_mini (k_maxi (((w89 0 4) + x79) - (w89 0 7)) 0) 999)) fun w115 => k_bd (f_X9_openChutes w115) fun r119 => (if r119 ≤ 0 then f_X9_passSecond_151 w115 else k_bd (f_X2_valueAtOrBelow w115 6 (w115 0 0) 0) fun r139 => k_lt (k_up w115 0 2 ((w115 0 2) + (r139 + (w115 0 5)))) fun w148 => f_X9_passSecond_151 w148))
def f_X9_passSecond (w : k_M) : Option k_M :=
  k_bd (f_X9_air w) fun r1 => k_bd (f_X9_asksForBrakes w) fun r6 => (if r6 = 0 then f_X9_passSecond_16 w r1 else k_bd (f_X9_openWhatMay w) fun r13 => f_X9_passSecond_16 r13 r1)
def f_X9_passUntil_2_b (K2 : k_M → Int32 → Int32 → Int32 → Option (k_M × Int32)) (w : k_M) (a1 : Int32) (a2 : Int32) (a3 : Int32) : Option (k_M × Int32) :=
  (if (w 0 0) ≤ a1 then some (w, a3) else (if a2 ≤ a3 then some (w, a3) else k_bd (f_X9_passSecond w) fun r16 => k_lt (a3 + 1) fun x19 => K2 r16 a1 a2 x19))
def f_X9_passUntil_2 : Nat → k_M → Int32 → Int32 → Int32 → Option (k_M × Int32)
  | 0 => fun _ _ _ _ => none
  | n + 1 => fun w a1 a2 a3 => f_X9_passUntil_2_b (f_X9_passUntil_2 n) w a1 a2 a3
def f_X9_passUntil (w : k_M) (a1 : Int32) (a2 : Int32) : Option (k_M × Int32) :=
  f_X9_passUntil_2 k_N w a1 a2 0
