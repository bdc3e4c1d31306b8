def f_X4_bytesIn_22 (K5 : Int32 → Int32 → Int32 → Option Int32) (a0 : Int32) (a1 : Int32) (a2 : Int32) : Option Int32 :=
  k_lt (a2 + (-8)) fun x22 => K5 a0 a1 x22
def f_X4_bytesIn_5_b (K5 : Int32 → Int32 → Int32 → Option Int32) (a0 : Int32) (a1 : Int32) (a2 : Int32) : Option Int32 :=
  (if a2 < 0 then some a1 else (if (((a0.toUInt32 >>> ((a2 : Int32).toUInt32 &&& Int32.toUInt32 31)).toInt32) &&& 255) = 0 then f_X4_bytesIn_22 K5 a0 a1 a2 else k_lt (a1 + 1) fun x19 => f_X4_bytesIn_22 K5 a0 x19 a2))
def f_X4_bytesIn_5 : Nat → Int32 → Int32 → Int32 → Option Int32
  | 0 => fun _ _ _ => none
  | n + 1 => fun a0 a1 a2 => f_X4_bytesIn_5_b (f_X4_bytesIn_5 n) a0 a1 a2
def f_X4_bytesIn (a0 : Int32) : Option Int32 :=
  f_X4_bytesIn_5 k_N a0 0 24
def f_X4_room (w : k_M) : Option Int32 :=
  some (600 - (w 0 2))
def f_X4_kindOf_28 (a0 : Int32) : Option Int32 :=
  (if a0 = 10 then some 5 else (if a0 = 32 then some 5 else (if a0 = 45 then some 3 else (if a0 = 59 then some 4 else some 6))))
def f_X4_kindOf_14 (a0 : Int32) : Option Int32 :=
  (if a0 < 48 then f_X4_kindOf_28 a0 else (if 57 < a0 then f_X4_kindOf_28 a0 else some 2))
def f_X4_kindOf (a0 : Int32) : Option Int32 :=
  (if a0 < 97 then f_X4_kindOf_14 a0 else (if 122 < a0 then f_X4_kindOf_14 a0 else some 1))
def f_X4_addBytesOf_62 (K3 : k_M → Int32 → Int32 → Option k_M) (w : k_M) (a1 : Int32) (a2 : Int32) : Option k_M :=
  k_lt (a2 + (-8)) fun x62 => K3 w a1 x62
def f_X4_addBytesOf_3_b (K3 : k_M → Int32 → Int32 → Option k_M) (w : k_M) (a1 : Int32) (a2 : Int32) : Option k_M :=
  (if a2 < 0 then some w else k_lt ((((a1.toUInt32 >>> ((a2 : Int32).toUInt32 &&& Int32.toUInt32 31)).toInt32) &&& 255)) fun x14 => (if x14 = 0 then f_X4_addBytesOf_62 K3 w a1 a2 else (if 600 ≤ (w 0 2) then f_X4_addBytesOf_62 K3 w a1 a2 else k_ck (0 ≤ (w 0 2) ∧ (w 0 2) < 600) (k_lt (k_up w 1 ((w 0 2).toNatClampNeg) x14) fun w38 => k_bd (f_X4_kindOf x14) fun r48 => k_ck (0 ≤ (w38 0 2) ∧ (w38 0 2) < 600) (k_lt (k_up w38 2 ((w38 0 2).toNatClampNeg) r48) fun w51 => k_lt (k_up w51 0 2 ((w51 0 2) + 1)) fun w59 => f_X4_addBytesOf_62 K3 w59 a1 a2)))))
def f_X4_addBytesOf_3 : Nat → k_M → Int32 → Int32 → Option k_M
  | 0 => fun _ _ _ => none
  | n + 1 => fun w a1 a2 => f_X4_addBytesOf_3_b (f_X4_addBytesOf_3 n) w a1 a2
def f_X4_addBytesOf (w : k_M) (a1 : Int32) : Option k_M :=
  f_X4_addBytesOf_3 k_N w a1 24
def f_X10_append (u : k_U) (a1 : Int32) (a2 : Int32) (a3 : Int32) (a4 : Int32) (a5 : Int32) : Option (k_U × (Int32 ⊕ Nat)) :=
  k_bd (f_X4_bytesIn a1) fun r1 => k_bd (f_X4_bytesIn a2) fun r5 => k_bd (f_X4_bytesIn a3) fun r10 => k_bd (f_X4_bytesIn a4) fun r16 => k_bd (f_X4_bytesIn a5) fun r22 => k_lt (((((r1 + r5) + r10) + r16) + r22)) fun x26 => k_bd (f_X4_room (u 1)) fun r34 => (if x26 ≤ r34 then k_bd (f_X4_addBytesOf (u 1) a1) fun r55 => k_lt (k_uc u 1 r55) fun u55 => k_bd (f_X4_addBytesOf (u55 1) a2) fun r63 => k_lt (k_uc u55 1 r63) fun u63 => k_bd (f_X4_addBytesOf (u63 1) a3) fun r71 => k_lt (k_uc u63 1 r71) fun u71 => k_bd (f_X4_addBytesOf (u71 1) a4) fun r80 => k_lt (k_uc u71 1 r80) fun u80 => k_bd (f_X4_addBytesOf (u80 1) a5) fun r89 => k_lt (k_uc u80 1 r89) fun u89 => some (u89, Sum.inl (u89 1 0 2)) else some (u, Sum.inr 0))
def f_X4_advance_227 (K170 : k_M → Option k_M) (w : k_M) : Option k_M :=
  k_lt (k_up w 0 7 ((w 0 7) + 1)) fun w234 => K170 w234
def f_X4_advance_170_b (K170 : k_M → Option k_M) (w : k_M) : Option k_M :=
  (if (w 0 2) ≤ (w 0 7) then some w else k_ck (0 ≤ (w 0 7) ∧ (w 0 7) < 600) ((if (w 2 ((w 0 7).toNatClampNeg)) = 2 then (if 1000000 ≤ (w 0 8) then f_X4_advance_227 K170 w else k_ck (0 ≤ (w 0 7) ∧ (w 0 7) < 600) (k_lt (k_up w 0 8 ((((w 0 8) * 10) + (w 1 ((w 0 7).toNatClampNeg))) - 48)) fun w224 => f_X4_advance_227 K170 w224)) else some w)))
def f_X4_advance_170 : Nat → k_M → Option k_M
  | 0 => fun _ => none
  | n + 1 => fun w => f_X4_advance_170_b (f_X4_advance_170 n) w
def f_X4_advance_109_b (K109 : k_M → Option k_M) (w : k_M) : Option k_M :=
  (if (w 0 2) ≤ (w 0 7) then some w else k_ck (0 ≤ (w 0 7) ∧ (w 0 7) < 600) ((if (w 2 ((w 0 7).toNatClampNeg)) = 1 then k_lt (k_up w 0 7 ((w 0 7) + 1)) fun w140 => K109 w140 else some w)))
def f_X4_advance_109 : Nat → k_M → Option k_M
  | 0 => fun _ => none
  | n + 1 => fun w => f_X4_advance_109_b (f_X4_advance_109 n) w
def f_X4_advance_53 (w : k_M) : Option k_M :=
  k_lt (k_up w 0 7 (w 0 6)) fun w58 => (if (w58 0 6) < (w58 0 2) then k_ck (0 ≤ (w58 0 6) ∧ (w58 0 6) < 600) (k_lt (k_up w58 0 5 (w58 2 ((w58 0 6).toNatClampNeg))) fun w88 => k_lt (k_up w88 0 7 ((w88 0 7) + 1)) fun w98 => (if (w98 0 5) = 1 then f_X4_advance_109 k_N w98 else (if (w98 0 5) = 2 then k_ck (0 ≤ (w98 0 6) ∧ (w98 0 6) < 600) (k_lt (k_up w98 0 8 ((w98 1 ((w98 0 6).toNatClampNeg)) - 48)) fun w167 => f_X4_advance_170 k_N w167) else some w98))) else k_lt (k_up w58 0 5 0) fun w74 => some w74)
def f_X4_advance_16_b (K16 : k_M → Option k_M) (w : k_M) : Option k_M :=
  (if (w 0 2) ≤ (w 0 6) then f_X4_advance_53 w else k_ck (0 ≤ (w 0 6) ∧ (w 0 6) < 600) ((if (w 2 ((w 0 6).toNatClampNeg)) = 5 then k_lt (k_up w 0 6 ((w 0 6) + 1)) fun w47 => K16 w47 else f_X4_advance_53 w)))
def f_X4_advance_16 : Nat → k_M → Option k_M
  | 0 => fun _ => none
  | n + 1 => fun w => f_X4_advance_16_b (f_X4_advance_16 n) w
def f_X4_advance (w : k_M) : Option k_M :=
  k_lt (k_up w 0 9 (w 0 6)) fun w5 => k_lt (k_up w5 0 6 (w5 0 7)) fun w13 => f_X4_advance_16 k_N w13
def f_X4_begin (w : k_M) : Option k_M :=
  k_lt (k_up w 0 3 0) fun w2 => k_lt (k_up w2 0 4 (-1)) fun w7 => k_lt (k_up w7 0 7 0) fun w12 => k_bd (f_X4_advance w12) fun r16 => some r16
def f_X4_isAt_28_b (K28 : k_M → Nat → Int32 → Option Int32) (w : k_M) (t1 : Nat) (a2 : Int32) : Option Int32 :=
  (if (k_wlen t1) ≤ a2 then some 1 else k_ck (0 ≤ ((w 0 6) + a2) ∧ ((w 0 6) + a2) < 600) (k_ck (0 ≤ a2 ∧ a2 < k_wlen t1) ((if (w 1 (((w 0 6) + a2).toNatClampNeg)) = (k_wchr t1 a2.toNatClampNeg) then k_lt (a2 + 1) fun x57 => K28 w t1 x57 else some 0))))
def f_X4_isAt_28 : Nat → k_M → Nat → Int32 → Option Int32
  | 0 => fun _ _ _ => none
  | n + 1 => fun w t1 a2 => f_X4_isAt_28_b (f_X4_isAt_28 n) w t1 a2
def f_X4_isAt (w : k_M) (t1 : Nat) : Option Int32 :=
  (if (w 0 5) = 1 then (if ((w 0 7) - (w 0 6)) = (k_wlen t1) then f_X4_isAt_28 k_N w t1 0 else some 0) else some 0)
def f_X4_hasFailed (w : k_M) : Option Int32 :=
  (if (w 0 3) = 0 then some 0 else some 1)
def f_X4_failAt (w : k_M) (a1 : Int32) (a2 : Int32) : Option k_M :=
  (if (w 0 3) = 0 then k_lt (k_up w 0 3 a2) fun w9 => k_lt (k_up w9 0 4 a1) fun w14 => some w14 else some w)
def f_X4_takeWord (w : k_M) (t1 : Nat) : Option k_M :=
  k_bd (f_X4_isAt w t1) fun r2 => (if r2 = 0 then k_bd (f_X4_failAt w (w 0 6) 1) fun r14 => some r14 else k_bd (f_X4_hasFailed w) fun r21 => (if r21 = 0 then k_bd (f_X4_advance w) fun r28 => some r28 else some w))
def f_X4_takeNumber_45 (w : k_M) (a1 : Int32) (a2 : Int32) : Option (k_M × Int32) :=
  k_bd (f_X4_hasFailed w) fun r46 => (if r46 = 0 then k_lt (w 0 8) fun x58 => k_bd (f_X4_advance w) fun r60 => some (r60, x58) else some (w, 0))
def f_X4_takeNumber_36 (w : k_M) (a1 : Int32) (a2 : Int32) : Option (k_M × Int32) :=
  k_bd (f_X4_failAt w (w 0 6) 2) fun r42 => f_X4_takeNumber_45 r42 a1 a2
def f_X4_takeNumber (w : k_M) (a1 : Int32) (a2 : Int32) : Option (k_M × Int32) :=
  (if (w 0 5) = 2 then (if (w 0 8) < a1 then f_X4_takeNumber_36 w a1 a2 else (if (w 0 8) ≤ a2 then f_X4_takeNumber_45 w a1 a2 else f_X4_takeNumber_36 w a1 a2)) else k_bd (f_X4_failAt w (w 0 6) 1) fun r14 => f_X4_takeNumber_45 r14 a1 a2)
def f_X4_takeSemicolon (w : k_M) : Option k_M :=
  (if (w 0 5) = 4 then k_bd (f_X4_hasFailed w) fun r21 => (if r21 = 0 then k_bd (f_X4_advance w) fun r28 => some r28 else some w) else k_bd (f_X4_failAt w (w 0 6) 1) fun r14 => some r14)
def f_X1_forget (w : k_M) : Option k_M :=
  k_lt (k_up w 13 1 0) fun w2 => k_lt (k_up w2 13 2 0) fun w7 => some w7
def f_X9_begin (w : k_M) (a1 : Int32) (a2 : Int32) (a3 : Int32) : Option k_M :=
  k_lt (k_up w 0 0 a1) fun w2 => k_lt (k_up w2 0 1 a2) fun w7 => k_lt (k_up w7 0 3 a3) fun w12 => k_lt (k_up w12 0 2 0) fun w17 => k_lt (k_up w17 0 4 0) fun w22 => k_lt (k_up w22 0 5 0) fun w27 => k_lt (k_up w27 0 6 0) fun w32 => k_lt (k_up w32 0 7 20) fun w38 => k_lt (k_up w38 0 8 0) fun w43 => k_lt (k_up w43 0 9 0) fun w48 => k_lt (k_up w48 0 10 0) fun w53 => k_lt (k_up w53 0 11 0) fun w58 => k_lt (k_up w58 3 2 0) fun w66 => k_lt (k_up w66 6 2 0) fun w74 => k_lt (k_up w74 9 3 0) fun w82 => k_bd (f_X1_forget w82) fun r89 => some r89
def f_X4_hasMore (w : k_M) : Option Int32 :=
  k_bd (f_X4_hasFailed w) fun r1 => (if r1 = 0 then (if (w 0 5) = 0 then some 0 else some 1) else some 0)
def f_X4_skipWord (w : k_M) (t1 : Nat) : Option (k_M × Int32) :=
  k_bd (f_X4_hasFailed w) fun r1 => (if r1 = 0 then k_bd (f_X4_isAt w t1) fun r9 => (if r9 = 0 then some (w, 0) else k_bd (f_X4_advance w) fun r18 => some (r18, 1)) else some (w, 0))
def f_X4_failHere (w : k_M) (a1 : Int32) : Option k_M :=
  k_bd (f_X4_failAt w (w 0 6) a1) fun r6 => some r6
def f_X4_failTaken (w : k_M) (a1 : Int32) : Option k_M :=
  k_bd (f_X4_failAt w (w 0 9) a1) fun r6 => some r6
def f_X4_takeSigned_29 (w : k_M) (a1 : Int32) (a2 : Int32) : Option (k_M × Int32) :=
  k_bd (f_X4_takeNumber w 0 a1) fun r32 => (if a2 = 0 then some (r32.1, r32.2) else some (r32.1, (-r32.2)))
def f_X4_takeSigned_20 (w : k_M) (a1 : Int32) (as0 : Int32) : Option (k_M × Int32) :=
  (if as0 = 0 then f_X4_takeSigned_29 w a1 as0 else k_bd (f_X4_advance w) fun r26 => f_X4_takeSigned_29 r26 a1 as0)
def f_X4_takeSigned_19 (w : k_M) (a1 : Int32) : Option (k_M × Int32) :=
  f_X4_takeSigned_20 w a1 0
def f_X4_takeSigned (w : k_M) (a1 : Int32) : Option (k_M × Int32) :=
  (if (w 0 5) = 3 then k_bd (f_X4_hasFailed w) fun r9 => (if r9 = 0 then f_X4_takeSigned_20 w a1 1 else f_X4_takeSigned_19 w a1) else f_X4_takeSigned_19 w a1)
def f_X8_add (w : k_M) (a1 : Int32) (a2 : Int32) (a3 : Int32) : Option k_M :=
  (if 8 ≤ (w 9 3) then some w else k_ck (0 ≤ (w 9 3) ∧ (w 9 3) < 8) (k_lt (k_up w 10 ((w 9 3).toNatClampNeg) a1) fun w18 => k_ck (0 ≤ (w18 9 3) ∧ (w18 9 3) < 8) (k_lt (k_up w18 11 ((w18 9 3).toNatClampNeg) a2) fun w28 => k_ck (0 ≤ (w28 9 3) ∧ (w28 9 3) < 8) (k_lt (k_up w28 12 ((w28 9 3).toNatClampNeg) a3) fun w38 => k_lt (k_up w38 9 3 ((w38 9 3) + 1)) fun w46 => some w46))))
def f_X6_readSpot_46 (u : k_U) (a2 : Int32) (a3 : Int32) : Option k_U :=
  k_bd (f_X4_takeNumber (u 1) 1 99) fun r50 => k_lt (k_uc u 1 r50.1) fun u50 => k_bd (f_X8_add (u50 14) a2 a3 r50.2) fun r66 => k_lt (k_uc u50 14 r66) fun u66 => some u66
def f_X6_readSpot_20 (u : k_U) : Option k_U :=
  k_bd (f_X4_takeSigned (u 1) 9999) fun r24 => k_lt (k_uc u 1 r24.1) fun u24 => k_bd (f_X4_takeSigned (u24 1) 9999) fun r32 => k_lt (k_uc u24 1 r32.1) fun u32 => (if r24.2 ≤ r32.2 then f_X6_readSpot_46 u32 r24.2 r32.2 else k_bd (f_X4_failTaken (u32 1) 3) fun r43 => k_lt (k_uc u32 1 r43) fun u43 => f_X6_readSpot_46 u43 r24.2 r32.2)
def f_X6_readSpot (u : k_U) : Option k_U :=
  (if (u 14 9 3) < 8 then f_X6_readSpot_20 u else k_bd (f_X4_failTaken (u 1) 4) fun r17 => k_lt (k_uc u 1 r17) fun u17 => f_X6_readSpot_20 u17)
def f_X2_placeOf_2_b (K2 : k_M → Nat → Int32 → Int32 → Option Int32) (w : k_M) (tc : Nat) (a1 : Int32) (a2 : Int32) : Option Int32 :=
  (if (w tc 2) ≤ a2 then some (-1) else k_ck (0 ≤ a2 ∧ a2 < 8) ((if (w (tc + 1) a2.toNatClampNeg) = a1 then some a2 else k_lt (a2 + 1) fun x22 => K2 w tc a1 x22)))
def f_X2_placeOf_2 : Nat → k_M → Nat → Int32 → Int32 → Option Int32
  | 0 => fun _ _ _ _ => none
  | n + 1 => fun w tc a1 a2 => f_X2_placeOf_2_b (f_X2_placeOf_2 n) w tc a1 a2
def f_X2_placeOf (w : k_M) (tc : Nat) (a1 : Int32) : Option Int32 :=
  f_X2_placeOf_2 k_N w tc a1 0
def f_X6_takeNewHeight_14 (u : k_U) (c2 : Nat) (a3 : Int32) : Option (k_U × Int32) :=
  k_bd (f_X4_takeNumber (u 1) a3 30000) fun r19 => k_lt (k_uc u 1 r19.1) fun u19 => k_bd (f_X2_placeOf (u19 14) c2 r19.2) fun r27 => (if r27 = (-1) then some (u19, r19.2) else k_bd (f_X4_failTaken (u19 1) 3) fun r36 => k_lt (k_uc u19 1 r36) fun u36 => some (u36, r19.2))
def f_X6_takeNewHeight (u : k_U) (c2 : Nat) (a3 : Int32) : Option (k_U × Int32) :=
  (if (u 14 c2 2) < 8 then f_X6_takeNewHeight_14 u c2 a3 else k_bd (f_X4_failTaken (u 1) 4) fun r11 => k_lt (k_uc u 1 r11) fun u11 => f_X6_takeNewHeight_14 u11 c2 a3)
def f_X2_put_35 (w : k_M) (tc : Nat) (a1 : Int32) (a2 : Int32) (a3 : Int32) : Option k_M :=
  (if a3 = (-1) then some w else k_ck (0 ≤ a3 ∧ a3 < 8) (k_lt (k_up w (tc + 1) a3.toNatClampNeg a1) fun w46 => k_ck (0 ≤ a3 ∧ a3 < 8) (k_lt (k_up w46 (tc + 2) a3.toNatClampNeg a2) fun w53 => some w53)))
def f_X2_put (w : k_M) (tc : Nat) (a1 : Int32) (a2 : Int32) : Option k_M :=
  k_bd (f_X2_placeOf w tc a1) fun r2 => (if r2 = (-1) then (if 8 ≤ (w tc 2) then f_X2_put_35 w tc a1 a2 r2 else k_lt (w tc 2) fun x24 => k_lt (k_up w tc 2 ((w tc 2) + 1)) fun w32 => f_X2_put_35 w32 tc a1 a2 x24) else f_X2_put_35 w tc a1 a2 r2)
def f_X6_readWind (u : k_U) : Option k_U :=
  k_bd (f_X6_takeNewHeight u 6 0) fun r10 => k_bd (f_X4_takeSigned (r10.1 1) 40) fun r17 => k_lt (k_uc r10.1 1 r17.1) fun u17 => k_bd (f_X2_put (u17 14) 6 r10.2 r17.2) fun r30 => k_lt (k_uc u17 14 r30) fun u30 => some u30
def f_X6_readHeightAndSpeed (u : k_U) : Option k_U :=
  k_bd (f_X6_takeNewHeight u 3 1) fun r10 => k_bd (f_X4_takeNumber (r10.1 1) 1 400) fun r19 => k_lt (k_uc r10.1 1 r19.1) fun u19 => k_bd (f_X2_put (u19 14) 3 r10.2 r19.2) fun r32 => k_lt (k_uc u19 14 r32) fun u32 => some u32
def f_X0_pack (w : k_M) (q : Nat) (a1 : Int32) (a2 : Int32) (a3 : Int32) (a4 : Int32) (a5 : Int32) : Option k_M :=
  k_lt (k_up w q 0 a1) fun w2 => k_lt (k_up w2 q 1 a2) fun w7 => k_lt (k_up w7 q 2 a3) fun w12 => k_lt (k_up w12 q 3 a4) fun w18 => k_lt (k_up w18 q 4 a5) fun w24 => k_lt (k_up w24 q 5 0) fun w29 => k_lt (k_up w29 q 6 0) fun w34 => k_lt (k_up w34 q 7 0) fun w39 => some w39
def f_X6_readChute (u : k_U) (q2 : Nat) (t3 : Nat) (a4 : Int32) : Option k_U :=
  k_bd (f_X4_takeNumber (u 1) 1 99) fun r4 => k_lt (k_uc u 1 r4.1) fun u4 => k_bd (f_X4_takeNumber (u4 1) 1 12) fun r13 => k_lt (k_uc u4 1 r13.1) fun u13 => k_bd (f_X4_takeNumber (u13 1) 1 9999) fun r23 => k_lt (k_uc u13 1 r23.1) fun u23 => k_bd (f_X4_takeWord (u23 1) 10) fun r31 => k_lt (k_uc u23 1 r31) fun u31 => k_bd (f_X4_takeNumber (u31 1) 1 30000) fun r39 => k_lt (k_uc u31 1 r39.1) fun u39 => k_bd (f_X4_takeWord (u39 1) t3) fun r46 => k_lt (k_uc u39 1 r46) fun u46 => k_bd (f_X4_takeNumber (u46 1) 1 a4) fun r53 => k_lt (k_uc u46 1 r53.1) fun u53 => k_bd (f_X0_pack (u53 14) q2 r4.2 r13.2 r23.2 r39.2 r53.2) fun r69 => k_lt (k_uc u53 14 r69) fun u69 => some u69
def f_X6_readReserve (u : k_U) : Option k_U :=
  (if (u 14 0 11) = 0 then k_bd (f_X6_readChute u 2 9 8) fun r29 => k_lt (k_uc r29 14 (k_up (r29 14) 0 11 1)) fun u37 => some u37 else k_bd (f_X4_failTaken (u 1) 3) fun r12 => k_lt (k_uc u 1 r12) fun u12 => some u12)
def f_X6_readLayer (u : k_U) : Option k_U :=
  (if (u 14 0 10) < 8 then k_ck (0 ≤ (u 14 0 10) ∧ (u 14 0 10) < 8) (k_bd (f_X6_readChute u (15 + (u 14 0 10).toNatClampNeg) 7 400) fun r42 => k_bd (f_X4_skipWord (r42 1) 8) fun r49 => k_lt (k_uc r42 1 r49.1) fun u49 => k_ck (r49.2 = 0 ∨ r49.2 = 1) (k_lt (k_uc u49 14 (k_up (u49 14) (15 + (u 14 0 10).toNatClampNeg) 6 r49.2)) fun u52 => k_lt (k_uc u52 14 (k_up (u52 14) 0 10 ((u52 14 0 10) + 1))) fun u65 => some u65)) else k_bd (f_X4_failTaken (u 1) 4) fun r14 => k_lt (k_uc u 1 r14) fun u14 => some u14)
def f_X6_readStatement (u : k_U) : Option k_U :=
  k_bd (f_X4_skipWord (u 1) 1) fun r3 => k_lt (k_uc u 1 r3.1) fun u3 => (if r3.2 = 0 then k_bd (f_X4_skipWord (u3 1) 2) fun r20 => k_lt (k_uc u3 1 r20.1) fun u20 => (if r20.2 = 0 then k_bd (f_X4_skipWord (u20 1) 3) fun r37 => k_lt (k_uc u20 1 r37.1) fun u37 => (if r37.2 = 0 then k_bd (f_X4_skipWord (u37 1) 4) fun r54 => k_lt (k_uc u37 1 r54.1) fun u54 => (if r54.2 = 0 then k_bd (f_X4_skipWord (u54 1) 5) fun r71 => k_lt (k_uc u54 1 r71.1) fun u71 => (if r71.2 = 0 then k_bd (f_X4_skipWord (u71 1) 6) fun r88 => k_lt (k_uc u71 1 r88.1) fun u88 => (if r88.2 = 0 then k_bd (f_X4_failHere (u88 1) 1) fun r113 => k_lt (k_uc u88 1 r113) fun u113 => some u113 else k_bd (f_X4_takeNumber (u88 1) 0 99) fun r102 => k_lt (k_uc u88 1 r102.1) fun u102 => k_lt (k_uc u102 14 (k_up (u102 14) 0 7 r102.2)) fun u105 => some u105) else k_bd (f_X6_readSpot u71) fun r79 => some r79) else k_bd (f_X6_readWind u54) fun r62 => some r62) else k_bd (f_X6_readHeightAndSpeed u37) fun r45 => some r45) else k_bd (f_X6_readReserve u20) fun r28 => some r28) else k_bd (f_X6_readLayer u3) fun r11 => some r11)
def f_X6_readSetup_94 (u : k_U) : Option (k_U × Int32) :=
  k_bd (f_X4_hasFailed (u 1)) fun r95 => (if r95 = 0 then some (u, 1) else some (u, 0))
def f_X6_readSetup_64_b (K64 : k_U → Int32 → Option (k_U × Int32)) (u : k_U) (a5 : Int32) : Option (k_U × Int32) :=
  (if 600 ≤ a5 then f_X6_readSetup_94 u else k_bd (f_X4_hasMore (u 1)) fun r73 => (if r73 = 0 then f_X6_readSetup_94 u else k_bd (f_X6_readStatement u) fun r81 => k_bd (f_X4_takeSemicolon (r81 1)) fun r85 => k_lt (k_uc r81 1 r85) fun u85 => k_lt (a5 + 1) fun x88 => K64 u85 x88))
def f_X6_readSetup_64 : Nat → k_U → Int32 → Option (k_U × Int32)
  | 0 => fun _ _ => none
  | n + 1 => fun u a5 => f_X6_readSetup_64_b (f_X6_readSetup_64 n) u a5
def f_X6_readSetup (u : k_U) : Option (k_U × Int32) :=
  k_bd (f_X4_begin (u 1)) fun r1 => k_lt (k_uc u 1 r1) fun u1 => k_bd (f_X4_takeWord (u1 1) 0) fun r7 => k_lt (k_uc u1 1 r7) fun u7 => k_bd (f_X4_takeNumber (u7 1) 1 30000) fun r15 => k_lt (k_uc u7 1 r15.1) fun u15 => k_bd (f_X4_takeNumber (u15 1) 0 400) fun r24 => k_lt (k_uc u15 1 r24.1) fun u24 => k_bd (f_X4_takeNumber (u24 1) 1 99) fun r32 => k_lt (k_uc u24 1 r32.1) fun u32 => k_bd (f_X4_takeSemicolon (u32 1)) fun r38 => k_lt (k_uc u32 1 r38) fun u38 => k_bd (f_X4_hasFailed (u38 1)) fun r42 => (if r42 = 0 then k_bd (f_X9_begin (u38 14) r15.2 r24.2 r32.2) fun r58 => k_lt (k_uc u38 14 r58) fun u58 => f_X6_readSetup_64 k_N u58 0 else some (u38, 0))
def f_X4_emptyText (w : k_M) : Option k_M :=
  k_lt (k_up w 0 2 0) fun w2 => some w2
def f_X0_copyFrom (w : k_M) (o : k_M) (q : Nat) (q2 : Nat) : Option k_M :=
  k_lt (k_up w q 0 (o q2 0)) fun w5 => k_lt (k_up w5 q 1 (o q2 1)) fun w13 => k_lt (k_up w13 q 2 (o q2 2)) fun w21 => k_lt (k_up w21 q 3 (o q2 3)) fun w29 => k_lt (k_up w29 q 4 (o q2 4)) fun w37 => k_lt (k_up w37 q 5 (o q2 5)) fun w45 => k_ck ((o q2 6) = 0 ∨ (o q2 6) = 1) (k_lt (k_up w45 q 6 (o q2 6)) fun w53 => k_lt (k_up w53 q 7 (o q2 7)) fun w61 => some w61)
def f_X2_copyFrom (w : k_M) (o : k_M) (tc : Nat) : Option k_M :=
  k_lt (k_cp w (tc + 1) (fun j => if j < 8 then o (tc + 1) j else w (tc + 1) j)) fun w12 => k_lt (k_cp w12 (tc + 2) (fun j => if j < 8 then o (tc + 2) j else w12 (tc + 2) j)) fun w27 => k_lt (k_up w27 tc 2 (o tc 2)) fun w35 => some w35
def f_X8_copyFrom (w : k_M) (o : k_M) : Option k_M :=
  k_lt (k_cp w 10 (fun j => if j < 8 then o 10 j else w 10 j)) fun w12 => k_lt (k_cp w12 11 (fun j => if j < 8 then o 11 j else w12 11 j)) fun w27 => k_lt (k_cp w27 12 (fun j => if j < 8 then o 12 j else w27 12 j)) fun w42 => k_lt (k_up w42 9 3 (o 9 3)) fun w50 => some w50
def f_X1_copyFrom (w : k_M) (o : k_M) : Option k_M :=
  k_lt (k_cp w 14 (fun j => if j < 120 then o 14 j else w 14 j)) fun w12 => k_lt (k_up w12 13 1 (o 13 1)) fun w20 => k_lt (k_up w20 13 2 (o 13 2)) fun w28 => some w28
def f_X9_copyFrom_98_b (K98 : k_M → k_M → Int32 → Option k_M) (w : k_M) (o : k_M) (a2 : Int32) : Option k_M :=
  (if (w 0 10) ≤ a2 then k_bd (f_X0_copyFrom w o 2 2) fun r135 => k_bd (f_X2_copyFrom r135 o 3) fun r146 => k_bd (f_X2_copyFrom r146 o 6) fun r157 => k_bd (f_X8_copyFrom r157 o) fun r168 => k_bd (f_X1_copyFrom r168 o) fun r179 => some r179 else k_ck (0 ≤ a2 ∧ a2 < 8) (k_ck (0 ≤ a2 ∧ a2 < 8) (k_bd (f_X0_copyFrom w o (15 + a2.toNatClampNeg) (15 + a2.toNatClampNeg)) fun r118 => k_lt (a2 + 1) fun x121 => K98 r118 o x121)))
def f_X9_copyFrom_98 : Nat → k_M → k_M → Int32 → Option k_M
  | 0 => fun _ _ _ => none
  | n + 1 => fun w o a2 => f_X9_copyFrom_98_b (f_X9_copyFrom_98 n) w o a2
def f_X9_copyFrom (w : k_M) (o : k_M) : Option k_M :=
  k_lt (k_up w 0 0 (o 0 0)) fun w5 => k_lt (k_up w5 0 1 (o 0 1)) fun w13 => k_lt (k_up w13 0 2 (o 0 2)) fun w21 => k_lt (k_up w21 0 3 (o 0 3)) fun w29 => k_lt (k_up w29 0 4 (o 0 4)) fun w37 => k_lt (k_up w37 0 5 (o 0 5)) fun w45 => k_lt (k_up w45 0 6 (o 0 6)) fun w53 => k_lt (k_up w53 0 7 (o 0 7)) fun w61 => k_lt (k_up w61 0 8 (o 0 8)) fun w69 => k_lt (k_up w69 0 9 (o 0 9)) fun w77 => k_lt (k_up w77 0 10 (o 0 10)) fun w85 => k_ck ((o 0 11) = 0 ∨ (o 0 11) = 1) (k_lt (k_up w85 0 11 (o 0 11)) fun w93 => f_X9_copyFrom_98 k_N w93 o 0)
def f_X3_forget (u : k_U) : Option k_U :=
  k_lt (k_uc u 4 (k_up (u 4) 0 2 0)) fun u2 => some u2
def f_X9_chuteCount (w : k_M) : Option Int32 :=
  (if (w 0 11) = 0 then some (w 0 10) else some ((w 0 10) + 1))
def f_X10_load (u : k_U) : Option (k_U × Int32) :=
  k_bd (f_X6_readSetup u) fun r8 => k_bd (f_X4_emptyText (r8.1 1)) fun r16 => k_lt (k_uc r8.1 1 r16) fun u16 => (if r8.2 = 0 then some (u16, (-1)) else k_bd (f_X9_copyFrom (u16 10) (u16 14)) fun r36 => k_lt (k_uc u16 10 r36) fun u36 => k_bd (f_X3_forget u36) fun r43 => k_bd (f_X9_chuteCount (r43 10)) fun r50 => some (r43, r50))
def f_X5_takeKind (u : k_U) : Option (k_U × Int32) :=
  k_bd (f_X4_skipWord (u 1) 11) fun r3 => k_lt (k_uc u 1 r3.1) fun u3 => (if r3.2 = 0 then k_bd (f_X4_skipWord (u3 1) 12) fun r14 => k_lt (k_uc u3 1 r14.1) fun u14 => (if r14.2 = 0 then k_bd (f_X4_skipWord (u14 1) 13) fun r25 => k_lt (k_uc u14 1 r25.1) fun u25 => (if r25.2 = 0 then k_bd (f_X4_skipWord (u25 1) 14) fun r36 => k_lt (k_uc u25 1 r36.1) fun u36 => (if r36.2 = 0 then k_bd (f_X4_skipWord (u36 1) 15) fun r47 => k_lt (k_uc u36 1 r47.1) fun u47 => (if r47.2 = 0 then k_bd (f_X4_skipWord (u47 1) 16) fun r58 => k_lt (k_uc u47 1 r58.1) fun u58 => (if r58.2 = 0 then k_bd (f_X4_failHere (u58 1) 1) fun r68 => k_lt (k_uc u58 1 r68) fun u68 => some (u68, (-1)) else some (u58, 5)) else some (u47, 4)) else some (u36, 3)) else some (u25, 2)) else some (u14, 1)) else some (u3, 0))
def f_X5_takeArgument (u : k_U) (a2 : Int32) (a3 : Int32) (a4 : Int32) : Option (k_U × Int32) :=
  (if a2 = 0 then k_bd (f_X4_takeNumber (u 1) 1 200) fun r45 => k_lt (k_uc u 1 r45.1) fun u45 => some (u45, r45.2) else (if a2 = 1 then k_bd (f_X4_takeNumber (u 1) 0 30000) fun r54 => k_lt (k_uc u 1 r54.1) fun u54 => some (u54, r54.2) else (if a2 = 2 then k_bd (f_X4_takeNumber (u 1) 0 (a3 - 1)) fun r63 => k_lt (k_uc u 1 r63.1) fun u63 => some (u63, r63.2) else (if a2 = 3 then some (u, 0) else (if a2 = 4 then k_bd (f_X4_takeNumber (u 1) 0 (a4 - 1)) fun r73 => k_lt (k_uc u 1 r73.1) fun u73 => some (u73, r73.2) else (if a2 = 5 then k_bd (f_X4_takeSigned (u 1) 9) fun r80 => k_lt (k_uc u 1 r80.1) fun u80 => some (u80, r80.2) else some (u, 0)))))))
def f_X5_readCommand_21 (u : k_U) (a2 : Int32) (a3 : Int32) (a4 : Int32) : Option k_U :=
  k_bd (f_X5_takeArgument u a4 a2 a3) fun r27 => k_bd (f_X4_takeSemicolon (r27.1 1)) fun r33 => k_lt (k_uc r27.1 1 r33) fun u33 => k_bd (f_X4_hasFailed (u33 1)) fun r37 => (if r37 = 0 then (if 40 ≤ (u33 2 0 2) then some u33 else k_ck (0 ≤ (u33 2 0 2) ∧ (u33 2 0 2) < 40) (k_lt (k_uc u33 2 (k_up (u33 2) 1 ((u33 2 0 2).toNatClampNeg) a4)) fun u62 => k_ck (0 ≤ (u62 2 0 2) ∧ (u62 2 0 2) < 40) (k_lt (k_uc u62 2 (k_up (u62 2) 2 ((u62 2 0 2).toNatClampNeg) r27.2)) fun u73 => k_lt (k_uc u73 2 (k_up (u73 2) 0 2 ((u73 2 0 2) + 1))) fun u81 => some u81))) else some u33)
def f_X5_readCommand (u : k_U) (a2 : Int32) (a3 : Int32) : Option k_U :=
  k_bd (f_X5_takeKind u) fun r2 => (if (r2.1 2 0 2) < 40 then f_X5_readCommand_21 r2.1 a2 a3 r2.2 else k_bd (f_X4_failTaken (r2.1 1) 4) fun r18 => k_lt (k_uc r2.1 1 r18) fun u18 => f_X5_readCommand_21 u18 a2 a3 r2.2)
def f_X5_readCommands_40 (u : k_U) (a2 : Int32) (a3 : Int32) : Option (k_U × Int32) :=
  k_bd (f_X4_hasFailed (u 1)) fun r41 => (if r41 = 0 then some (u, 1) else some (u, 0))
def f_X5_readCommands_12_b (K12 : k_U → Int32 → Int32 → Int32 → Option (k_U × Int32)) (u : k_U) (a2 : Int32) (a3 : Int32) (a4 : Int32) : Option (k_U × Int32) :=
  (if 600 ≤ a4 then f_X5_readCommands_40 u a2 a3 else k_bd (f_X4_hasMore (u 1)) fun r21 => (if r21 = 0 then f_X5_readCommands_40 u a2 a3 else k_bd (f_X5_readCommand u a2 a3) fun r31 => k_lt (a4 + 1) fun x34 => K12 r31 a2 a3 x34))
def f_X5_readCommands_12 : Nat → k_U → Int32 → Int32 → Int32 → Option (k_U × Int32)
  | 0 => fun _ _ _ _ => none
  | n + 1 => fun u a2 a3 a4 => f_X5_readCommands_12_b (f_X5_readCommands_12 n) u a2 a3 a4
def f_X5_readCommands (u : k_U) (a2 : Int32) (a3 : Int32) : Option (k_U × Int32) :=
  k_lt (k_uc u 2 (k_up (u 2) 0 2 0)) fun u2 => k_bd (f_X4_begin (u2 1)) fun r6 => k_lt (k_uc u2 1 r6) fun u6 => f_X5_readCommands_12 k_N u6 a2 a3 0
def f_X9_hasLanded (w : k_M) : Option Int32 :=
  (if (w 0 0) = 0 then some 1 else some 0)
def f_X3_remember (u : k_U) : Option k_U :=
  k_ck (0 ≤ (u 4 0 1) ∧ (u 4 0 1) < 8) (k_bd (f_X9_copyFrom (u (15 + (u 4 0 1).toNatClampNeg)) (u 10)) fun r10 => k_lt (k_uc u (15 + (u 4 0 1).toNatClampNeg) r10) fun u10 => k_lt (k_uc u10 4 (k_up (u10 4) 0 1 (((u10 4 0 1) + 1) - ((u10 4 0 1) + 1) / 8 * 8))) fun u23 => k_lt (k_uc u23 4 (k_up (u23 4) 0 2 (k_mini ((u23 4 0 2) + 1) 8))) fun u38 => some u38)
def f_X10_beginAct (u : k_U) : Option k_U :=
  k_lt (k_uc u 0 (k_up (u 0) 3 0 ((u 0 3 0) + 1))) fun u9 => k_bd (f_X3_remember u9) fun r18 => some r18
def f_X9_air (w : k_M) : Option Int32 :=
  some (100 - ((w 0 0) / 400))
def f_X2_valueAtOrAbove_49 (K5 : k_M → Nat → Int32 → Int32 → Int32 → Int32 → Option Int32) (w : k_M) (tc : Nat) (a1 : Int32) (a2 : Int32) (a3 : Int32) (a4 : Int32) : Option Int32 :=
  k_lt (a4 + 1) fun x49 => K5 w tc a1 a2 a3 x49
def f_X2_valueAtOrAbove_46 (K5 : k_M → Nat → Int32 → Int32 → Int32 → Int32 → Option Int32) (w : k_M) (tc : Nat) (a1 : Int32) (a2 : Int32) (a4 : Int32) : Option Int32 :=
  f_X2_valueAtOrAbove_49 K5 w tc a1 a2 a4 a4
def f_X2_valueAtOrAbove_5_b (K5 : k_M → Nat → Int32 → Int32 → Int32 → Int32 → Option Int32) (w : k_M) (tc : Nat) (a1 : Int32) (a2 : Int32) (a3 : Int32) (a4 : Int32) : Option Int32 :=
  (if (w tc 2) ≤ a4 then (if a3 = (-1) then some a2 else k_ck (0 ≤ a3 ∧ a3 < 8) (some (w (tc + 2) a3.toNatClampNeg))) else k_ck (0 ≤ a4 ∧ a4 < 8) ((if (w (tc + 1) a4.toNatClampNeg) < a1 then f_X2_valueAtOrAbove_49 K5 w tc a1 a2 a3 a4 else (if a3 = (-1) then f_X2_valueAtOrAbove_46 K5 w tc a1 a2 a4 else k_ck (0 ≤ a4 ∧ a4 < 8) (k_ck (0 ≤ a3 ∧ a3 < 8) ((if (w (tc + 1) a3.toNatClampNeg) ≤ (w (tc + 1) a4.toNatClampNeg) then f_X2_valueAtOrAbove_49 K5 w tc a1 a2 a3 a4 else f_X2_valueAtOrAbove_46 K5 w tc a1 a2 a4)))))))
def f_X2_valueAtOrAbove_5 : Nat → k_M → Nat → Int32 → Int32 → Int32 → Int32 → Option Int32
  | 0 => fun _ _ _ _ _ _ => none
  | n + 1 => fun w tc a1 a2 a3 a4 => f_X2_valueAtOrAbove_5_b (f_X2_valueAtOrAbove_5 n) w tc a1 a2 a3 a4
def f_X2_valueAtOrAbove (w : k_M) (tc : Nat) (a1 : Int32) (a2 : Int32) : Option Int32 :=
  f_X2_valueAtOrAbove_5 k_N w tc a1 a2 (-1) 0
def f_X9_asksForBrakes (w : k_M) : Option Int32 :=
  k_bd (f_X2_valueAtOrAbove w 3 (w 0 0) (-1)) fun r9 => (if r9 = (-1) then some 0 else (if (w 0 1) ≤ r9 then some 0 else some 1))
def f_X0_isPackedAndBelowCeiling (w : k_M) (q : Nat) (a1 : Int32) : Option Int32 :=
  (if (w q 5) = 0 then (if (w q 3) < a1 then some 0 else some 1) else some 0)
def f_X9_firstLayerThatMayOpen_44 (K2 : k_M → Int32 → Option Int32) (w : k_M) (a1 : Int32) : Option Int32 :=
  k_lt (a1 + 1) fun x44 => K2 w x44
def f_X9_firstLayerThatMayOpen_2_b (K2 : k_M → Int32 → Option Int32) (w : k_M) (a1 : Int32) : Option Int32 :=
  (if (w 0 10) ≤ a1 then some (-1) else k_ck (0 ≤ a1 ∧ a1 < 8) (k_bd (f_X0_isPackedAndBelowCeiling w (15 + a1.toNatClampNeg) (w 0 0)) fun r20 => (if r20 = 0 then f_X9_firstLayerThatMayOpen_44 K2 w a1 else k_ck (0 ≤ a1 ∧ a1 < 8) ((if (w (15 + a1.toNatClampNeg) 4) < (w 0 1) then f_X9_firstLayerThatMayOpen_44 K2 w a1 else some a1)))))
def f_X9_firstLayerThatMayOpen_2 : Nat → k_M → Int32 → Option Int32
  | 0 => fun _ _ => none
  | n + 1 => fun w a1 => f_X9_firstLayerThatMayOpen_2_b (f_X9_firstLayerThatMayOpen_2 n) w a1
def f_X9_firstLayerThatMayOpen (w : k_M) : Option Int32 :=
  f_X9_firstLayerThatMayOpen_2 k_N w 0
def f_X0_hasFailed (w : k_M) (q : Nat) : Option Int32 :=
  (if (w q 5) = 2 then some 1 else (if (w q 5) = 3 then some 1 else some 0))
def f_X9_failedLayers_27 (K4 : k_M → Int32 → Int32 → Option Int32) (w : k_M) (a1 : Int32) (a2 : Int32) : Option Int32 :=
  k_lt (a2 + 1) fun x27 => K4 w a1 x27
def f_X9_failedLayers_4_b (K4 : k_M → Int32 → Int32 → Option Int32) (w : k_M) (a1 : Int32) (a2 : Int32) : Option Int32 :=
  (if (w 0 10) ≤ a2 then some a1 else k_ck (0 ≤ a2 ∧ a2 < 8) (k_bd (f_X0_hasFailed w (15 + a2.toNatClampNeg)) fun r18 => (if r18 = 0 then f_X9_failedLayers_27 K4 w a1 a2 else k_lt (a1 + 1) fun x24 => f_X9_failedLayers_27 K4 w x24 a2)))
def f_X9_failedLayers_4 : Nat → k_M → Int32 → Int32 → Option Int32
  | 0 => fun _ _ _ => none
  | n + 1 => fun w a1 a2 => f_X9_failedLayers_4_b (f_X9_failedLayers_4 n) w a1 a2
def f_X9_failedLayers (w : k_M) : Option Int32 :=
  f_X9_failedLayers_4 k_N w 0 0
def f_X1_keep (w : k_M) (a1 : Int32) (a2 : Int32) (a3 : Int32) (a4 : Int32) : Option k_M :=
  k_lt (((((w 13 1) + (w 13 2)) - ((w 13 1) + (w 13 2)) / 30 * 30) * 4)) fun x14 => k_ck (0 ≤ x14 ∧ x14 < 120) (k_lt (k_up w 14 x14.toNatClampNeg a1) fun w23 => k_ck (0 ≤ (x14 + 1) ∧ (x14 + 1) < 120) (k_lt (k_up w23 14 ((x14 + 1).toNatClampNeg) a2) fun w33 => k_ck (0 ≤ (x14 + 2) ∧ (x14 + 2) < 120) (k_lt (k_up w33 14 ((x14 + 2).toNatClampNeg) a3) fun w43 => k_ck (0 ≤ (x14 + 3) ∧ (x14 + 3) < 120) (k_lt (k_up w43 14 ((x14 + 3).toNatClampNeg) a4) fun w54 => (if 30 ≤ (w54 13 2) then k_lt (k_up w54 13 1 (((w54 13 1) + 1) - ((w54 13 1) + 1) / 30 * 30)) fun w87 => some w87 else k_lt (k_up w54 13 2 ((w54 13 2) + 1)) fun w71 => some w71)))))
def f_X9_openTheReserve (w : k_M) (a1 : Int32) : Option k_M :=
  k_lt (k_up w 2 5 1) fun w5 => k_bd (f_X1_keep w5 (w5 0 6) 4 (w5 0 10) a1) fun r22 => some r22
def f_X9_openLayer (w : k_M) (a1 : Int32) : Option k_M :=
  k_ck (0 ≤ a1 ∧ a1 < 8) ((if (w (15 + a1.toNatClampNeg) 6) = 0 then k_lt (k_up w (15 + a1.toNatClampNeg) 5 1) fun w41 => k_bd (f_X1_keep w41 (w41 0 6) 0 a1 (w41 0 1)) fun r58 => some r58 else k_lt (k_up w (15 + a1.toNatClampNeg) 5 3) fun w16 => k_bd (f_X1_keep w16 (w16 0 6) 3 a1 (w16 0 1)) fun r33 => some r33))
def f_X9_openWhatMay (w : k_M) : Option k_M :=
  k_bd (f_X9_firstLayerThatMayOpen w) fun r1 => k_bd (f_X9_failedLayers w) fun r6 => (if r1 = (-1) then (if (w 0 11) = 0 then some w else k_bd (f_X0_isPackedAndBelowCeiling w 2 (w 0 0)) fun r38 => (if r38 = 0 then some w else (if r6 < (w 2 4) then some w else k_bd (f_X9_openTheReserve w r6) fun r57 => some r57))) else k_bd (f_X9_openLayer w r1) fun r17 => some r17)
def f_X9_hasLayer (w : k_M) (a1 : Int32) : Option Int32 :=
  (if a1 < 0 then some 0 else (if (w 0 10) ≤ a1 then some 0 else some 1))
def f_X9_chuteAt (w : k_M) (a1 : Int32) : Option Nat :=
  k_bd (f_X9_hasLayer w a1) fun r2 => (if r2 = 0 then some 2 else k_ck (0 ≤ a1 ∧ a1 < 8) (some (15 + a1.toNatClampNeg)))
def f_X0_pull (w : k_M) (q : Nat) (a1 : Int32) (a2 : Int32) : Option Int64 :=
  some ((((((w q 0).toInt64) * a1.toInt64) * a2.toInt64) * a2.toInt64) / (10000 : Int64))
def f_X0_loadOfOneLine_27 (w : k_M) (q : Nat) (a3 : Int32) (a4 : Int32) (a1 : Int64) (a5 : Int32) (as0 : Int32) : Option Int64 :=
  k_lt (((a1 * ((100 + (5 * as0)).toInt64)) / (100 : Int64))) fun x43 => k_ck (¬ a5.toInt64 = 0) (some (((x43 + a5.toInt64) - (1 : Int64)) / a5.toInt64))
def f_X0_loadOfOneLine (w : k_M) (q : Nat) (a1 : Int64) (a3 : Int32) (a4 : Int32) : Option Int64 :=
  k_lt (((w q 1) - a4)) fun x7 => (if 1 ≤ x7 then (if 0 ≤ a3 then f_X0_loadOfOneLine_27 w q a3 a4 a1 x7 a3 else f_X0_loadOfOneLine_27 w q a3 a4 a1 x7 (-a3)) else some (0 : Int64))
def f_X0_strengthOf (w : k_M) (q : Nat) (a1 : Int32) : Option Int32 :=
  some ((w q 2) + (3 * a1))
def f_X0_linesThatTear_81 (w : k_M) (q : Nat) (a1 : Int64) (a3 : Int32) (a4 : Int32) (a5 : Int32) : Option Int32 :=
  some (a5 - (w q 7))
def f_X0_linesThatTear_78 (K9 : k_M → Nat → Int64 → Int32 → Int32 → Int32 → Int32 → Option Int32) (w : k_M) (q : Nat) (a1 : Int64) (a3 : Int32) (a4 : Int32) (a5 : Int32) (a6 : Int32) : Option Int32 :=
  K9 w q a1 a3 a4 a5 a6
def f_X0_linesThatTear_39_b (K9 : k_M → Nat → Int64 → Int32 → Int32 → Int32 → Int32 → Option Int32) (K39 : k_M → Nat → Int64 → Int32 → Int32 → Int32 → Int32 → Int64 → Option Int32) (w : k_M) (q : Nat) (a1 : Int64) (a3 : Int32) (a4 : Int32) (a5 : Int32) (a6 : Int32) (a7 : Int64) : Option Int32 :=
  (if (w q 1) ≤ a5 then f_X0_linesThatTear_78 K9 w q a1 a3 a4 a5 a6 else k_bd (f_X0_strengthOf w q a5) fun r51 => (if 0 ≤ (lg_cmp (((r51 * (1000 - a4)) / 1000).toInt64) a7) then f_X0_linesThatTear_78 K9 w q a1 a3 a4 a5 a6 else k_lt (a5 + 1) fun x72 => K39 w q a1 a3 a4 x72 a6 a7))
def f_X0_linesThatTear_39 (K9 : k_M → Nat → Int64 → Int32 → Int32 → Int32 → Int32 → Option Int32) : Nat → k_M → Nat → Int64 → Int32 → Int32 → Int32 → Int32 → Int64 → Option Int32
  | 0 => fun _ _ _ _ _ _ _ _ => none
  | n + 1 => fun w q a1 a3 a4 a5 a6 a7 => f_X0_linesThatTear_39_b K9 (f_X0_linesThatTear_39 K9 n) w q a1 a3 a4 a5 a6 a7
def f_X0_linesThatTear_9_b (K9 : k_M → Nat → Int64 → Int32 → Int32 → Int32 → Int32 → Option Int32) (w : k_M) (q : Nat) (a1 : Int64) (a3 : Int32) (a4 : Int32) (a5 : Int32) (a6 : Int32) : Option Int32 :=
  (if a5 ≤ a6 then f_X0_linesThatTear_81 w q a1 a3 a4 a5 else (if (w q 1) ≤ a5 then f_X0_linesThatTear_81 w q a1 a3 a4 a5 else k_bd (f_X0_loadOfOneLine w q a1 a3 a5) fun r34 => f_X0_linesThatTear_39 K9 k_N w q a1 a3 a4 a5 a5 r34))
def f_X0_linesThatTear_9 : Nat → k_M → Nat → Int64 → Int32 → Int32 → Int32 → Int32 → Option Int32
  | 0 => fun _ _ _ _ _ _ _ => none
  | n + 1 => fun w q a1 a3 a4 a5 a6 => f_X0_linesThatTear_9_b (f_X0_linesThatTear_9 n) w q a1 a3 a4 a5 a6
def f_X0_linesThatTear (w : k_M) (q : Nat) (a1 : Int64) (a3 : Int32) (a4 : Int32) : Option Int32 :=
  k_lt (w q 7) fun x4 => f_X0_linesThatTear_9 k_N w q a1 a3 a4 x4 (-1)
def f_X0_linesThere (w : k_M) (q : Nat) : Option Int32 :=
  some ((w q 1) - (w q 7))
def f_X9_tear (w : k_M) (q1 : Nat) (a2 : Int32) (a3 : Int32) : Option k_M :=
  k_lt (k_up w q1 7 ((w q1 7) + a3)) fun w7 => k_bd (f_X1_keep w7 (w7 0 6) 1 a2 a3) fun r21 => k_bd (f_X0_linesThere r21 q1) fun r25 => (if r25 = 0 then k_lt (k_up r21 q1 5 2) fun w33 => k_bd (f_X1_keep w33 (w33 0 6) 2 a2 (w33 q1 0)) fun r50 => some r50 else some r21)
def f_X9_tearAndBrake_118 (K32 : k_M → Int32 → Int64 → Int32 → Int32 → Option (k_M × Int64)) (w : k_M) (a1 : Int32) (a2 : Int64) (a4 : Int32) (a5 : Int32) : Option (k_M × Int64) :=
  k_lt (a5 + 1) fun x118 => K32 w a1 a2 a4 x118
def f_X9_tearAndBrake_116 (K32 : k_M → Int32 → Int64 → Int32 → Int32 → Option (k_M × Int64)) (w : k_M) (a1 : Int32) (a4 : Int32) (a5 : Int32) (as0 : Int64) (as1 : Int64) : Option (k_M × Int64) :=
  k_lt ((as1 + as0)) fun x117 => f_X9_tearAndBrake_118 K32 w a1 x117 a4 a5
def f_X9_tearAndBrake_100 (K32 : k_M → Int32 → Int64 → Int32 → Int32 → Option (k_M × Int64)) (w : k_M) (a1 : Int32) (a2 : Int64) (a4 : Int32) (a5 : Int32) (q6 : Nat) (a7 : Int64) : Option (k_M × Int64) :=
  (if (w q6 5) = 1 then f_X9_tearAndBrake_116 K32 w a1 a4 a5 a7 a2 else f_X9_tearAndBrake_116 K32 w a1 a4 a5 (0 : Int64) a2)
def f_X9_tearAndBrake_32_b (K32 : k_M → Int32 → Int64 → Int32 → Int32 → Option (k_M × Int64)) (w : k_M) (a1 : Int32) (a2 : Int64) (a4 : Int32) (a5 : Int32) : Option (k_M × Int64) :=
  (if a4 ≤ a5 then some (w, a2) else k_bd (f_X9_chuteAt w a5) fun r42 => k_ck (r42 = 2 ∨ (15 ≤ r42 ∧ r42 < 23)) ((if (w r42 5) = 1 then k_bd (f_X0_pull w r42 a1 (w 0 1)) fun r63 => k_bd (f_X0_linesThatTear w r42 r63 (w 0 5) (w 0 4)) fun r80 => (if r80 ≤ 0 then f_X9_tearAndBrake_100 K32 w a1 a2 a4 a5 r42 r63 else k_bd (f_X9_tear w r42 a5 r80) fun r97 => f_X9_tearAndBrake_100 K32 r97 a1 a2 a4 a5 r42 r63) else f_X9_tearAndBrake_118 K32 w a1 a2 a4 a5)))
def f_X9_tearAndBrake_32 : Nat → k_M → Int32 → Int64 → Int32 → Int32 → Option (k_M × Int64)
  | 0 => fun _ _ _ _ _ => none
  | n + 1 => fun w a1 a2 a4 a5 => f_X9_tearAndBrake_32_b (f_X9_tearAndBrake_32 n) w a1 a2 a4 a5
def f_X9_tearAndBrake (w : k_M) (a1 : Int32) : Option (k_M × Int64) :=
  k_lt ((((((2 : Int64) * a1.toInt64) * ((w 0 1).toInt64)) * ((w 0 1).toInt64)) / (10000 : Int64))) fun x22 => k_bd (f_X9_chuteCount w) fun r24 => f_X9_tearAndBrake_32 k_N w a1 x22 r24 0
def f_X9_openChutes_29 (K9 : k_M → Int32 → Int32 → Int32 → Option Int32) (w : k_M) (a1 : Int32) (a2 : Int32) (a3 : Int32) : Option Int32 :=
  k_lt (a3 + 1) fun x29 => K9 w a1 a2 x29
def f_X9_openChutes_9_b (K9 : k_M → Int32 → Int32 → Int32 → Option Int32) (w : k_M) (a1 : Int32) (a2 : Int32) (a3 : Int32) : Option Int32 :=
  (if a2 ≤ a3 then some a1 else k_bd (f_X9_chuteAt w a3) fun r16 => k_ck (r16 = 2 ∨ (15 ≤ r16 ∧ r16 < 23)) ((if (w r16 5) = 1 then k_lt (a1 + 1) fun x26 => f_X9_openChutes_29 K9 w x26 a2 a3 else f_X9_openChutes_29 K9 w a1 a2 a3)))
def f_X9_openChutes_9 : Nat → k_M → Int32 → Int32 → Int32 → Option Int32
  | 0 => fun _ _ _ _ => none
  | n + 1 => fun w a1 a2 a3 => f_X9_openChutes_9_b (f_X9_openChutes_9 n) w a1 a2 a3
def f_X9_openChutes (w : k_M) : Option Int32 :=
  k_bd (f_X9_chuteCount w) fun r3 => f_X9_openChutes_9 k_N w 0 r3 0
def f_X2_valueAtOrBelow_49 (K5 : k_M → Nat → Int32 → Int32 → Int32 → Int32 → Option Int32) (w : k_M) (tc : Nat) (a1 : Int32) (a2 : Int32) (a3 : Int32) (a4 : Int32) : Option Int32 :=
  k_lt (a4 + 1) fun x49 => K5 w tc a1 a2 a3 x49
def f_X2_valueAtOrBelow_46 (K5 : k_M → Nat → Int32 → Int32 → Int32 → Int32 → Option Int32) (w : k_M) (tc : Nat) (a1 : Int32) (a2 : Int32) (a4 : Int32) : Option Int32 :=
  f_X2_valueAtOrBelow_49 K5 w tc a1 a2 a4 a4
def f_X2_valueAtOrBelow_5_b (K5 : k_M → Nat → Int32 → Int32 → Int32 → Int32 → Option Int32) (w : k_M) (tc : Nat) (a1 : Int32) (a2 : Int32) (a3 : Int32) (a4 : Int32) : Option Int32 :=
  (if (w tc 2) ≤ a4 then (if a3 = (-1) then some a2 else k_ck (0 ≤ a3 ∧ a3 < 8) (some (w (tc + 2) a3.toNatClampNeg))) else k_ck (0 ≤ a4 ∧ a4 < 8) ((if a1 < (w (tc + 1) a4.toNatClampNeg) then f_X2_valueAtOrBelow_49 K5 w tc a1 a2 a3 a4 else (if a3 = (-1) then f_X2_valueAtOrBelow_46 K5 w tc a1 a2 a4 else k_ck (0 ≤ a4 ∧ a4 < 8) (k_ck (0 ≤ a3 ∧ a3 < 8) ((if (w (tc + 1) a4.toNatClampNeg) ≤ (w (tc + 1) a3.toNatClampNeg) then f_X2_valueAtOrBelow_49 K5 w tc a1 a2 a3 a4 else f_X2_valueAtOrBelow_46 K5 w tc a1 a2 a4)))))))
def f_X2_valueAtOrBelow_5 : Nat → k_M → Nat → Int32 → Int32 → Int32 → Int32 → Option Int32
  | 0 => fun _ _ _ _ _ _ => none
  | n + 1 => fun w tc a1 a2 a3 a4 => f_X2_valueAtOrBelow_5_b (f_X2_valueAtOrBelow_5 n) w tc a1 a2 a3 a4
def f_X2_valueAtOrBelow (w : k_M) (tc : Nat) (a1 : Int32) (a2 : Int32) : Option Int32 :=
  f_X2_valueAtOrBelow_5 k_N w tc a1 a2 (-1) 0
def f_X8_distanceTo (w : k_M) (a1 : Int32) (a2 : Int32) : Option Int32 :=
  k_ck (0 ≤ a1 ∧ a1 < 8) ((if (w 10 a1.toNatClampNeg) ≤ a2 then k_ck (0 ≤ a1 ∧ a1 < 8) ((if a2 ≤ (w 11 a1.toNatClampNeg) then some 0 else k_ck (0 ≤ a1 ∧ a1 < 8) (some (a2 - (w 11 a1.toNatClampNeg))))) else k_ck (0 ≤ a1 ∧ a1 < 8) (some ((w 10 a1.toNatClampNeg) - a2))))
def f_X8_firstWith_2_b (K2 : k_M → Int32 → Int32 → Option Int32) (w : k_M) (a1 : Int32) (a2 : Int32) : Option Int32 :=
  (if (w 9 3) ≤ a2 then some (-1) else k_bd (f_X8_distanceTo w a2 a1) fun r13 => (if r13 = 0 then some a2 else k_lt (a2 + 1) fun x21 => K2 w a1 x21))
def f_X8_firstWith_2 : Nat → k_M → Int32 → Int32 → Option Int32
  | 0 => fun _ _ _ => none
  | n + 1 => fun w a1 a2 => f_X8_firstWith_2_b (f_X8_firstWith_2 n) w a1 a2
def f_X8_firstWith (w : k_M) (a1 : Int32) : Option Int32 :=
  f_X8_firstWith_2 k_N w a1 0
def f_X9_landingResult (w : k_M) : Option Int32 :=
  k_bd (f_X9_hasLanded w) fun r1 => (if r1 = 0 then some 0 else k_bd (f_X8_firstWith w (w 0 2)) fun r17 => (if r17 = (-1) then some 3 else k_ck (0 ≤ r17 ∧ r17 < 8) ((if (w 12 r17.toNatClampNeg) < (w 0 1) then some 2 else some 1))))
def f_X9_passSecond_226 (w : k_M) : Option k_M :=
  k_lt (k_up w 0 6 ((w 0 6) + 1)) fun w233 => some w233
def f_X9_passSecond_166 (w : k_M) : Option k_M :=
  k_lt ((k_mini (w 0 1) (w 0 0))) fun x177 => k_lt (k_up w 0 0 ((w 0 0) - x177)) fun w187 => k_lt (k_up w187 0 8 ((w187 0 8) + x177)) fun w198 => k_bd (f_X9_hasLanded w198) fun r202 => (if r202 = 0 then f_X9_passSecond_226 w198 else k_bd (f_X9_landingResult w198) fun r220 => k_bd (f_X1_keep w198 (w198 0 6) 6 (-1) r220) fun r223 => f_X9_passSecond_226 r223)
def f_X9_passSecond_40 (w : k_M) (a1 : Int32) (as0 : Int64) : Option k_M :=
  k_lt (((((w 0 1) + 10).toInt64) - as0).toInt32) fun x54 => k_lt (k_up w 0 1 (k_maxi (k_maxi x54 ((w 0 1) / 2)) 1)) fun w72 => k_lt ((((((w72 0 1).toInt64) * ((w72 0 1).toInt64)) * a1.toInt64) / (100000 : Int64)).toInt32) fun x94 => k_lt (k_up w72 0 9 ((w72 0 9) + x94)) fun w104 => k_lt (k_up w104 0 4 (k_mini (k_maxi (((w104 0 4) + x94) - (w104 0 7)) 0) 999)) fun w130 => k_bd (f_X9_openChutes w130) fun r134 => (if r134 ≤ 0 then f_X9_passSecond_166 w130 else k_bd (f_X2_valueAtOrBelow w130 6 (w130 0 0) 0) fun r154 => k_lt (k_up w130 0 2 ((w130 0 2) + (r154 + (w130 0 5)))) fun w163 => f_X9_passSecond_166 w163)
def f_X9_passSecond_16 (w : k_M) (a1 : Int32) : Option k_M :=
  k_bd (f_X9_tearAndBrake w a1) fun r18 => (if (r18.1 0 3) ≤ 0 then f_X9_passSecond_40 r18.1 a1 (0 : Int64) else k_ck (¬ ((r18.1 0 3).toInt64) = 0) (f_X9_passSecond_40 r18.1 a1 (r18.2 / ((r18.1 0 3).toInt64))))
def f_X9_passSecond (w : k_M) : Option k_M :=
  k_bd (f_X9_air w) fun r1 => k_bd (f_X9_asksForBrakes w) fun r6 => (if r6 = 0 then f_X9_passSecond_16 w r1 else k_bd (f_X9_openWhatMay w) fun r13 => f_X9_passSecond_16 r13 r1)
def f_X9_passUntil_2_b (K2 : k_M → Int32 → Int32 → Int32 → Option (k_M × Int32)) (w : k_M) (a1 : Int32) (a2 : Int32) (a3 : Int32) : Option (k_M × Int32) :=
  (if (w 0 0) ≤ a1 then some (w, a3) else (if a2 ≤ a3 then some (w, a3) else k_bd (f_X9_passSecond w) fun r16 => k_lt (a3 + 1) fun x19 => K2 r16 a1 a2 x19))
def f_X9_passUntil_2 : Nat → k_M → Int32 → Int32 → Int32 → Option (k_M × Int32)
  | 0 => fun _ _ _ _ => none
  | n + 1 => fun w a1 a2 a3 => f_X9_passUntil_2_b (f_X9_passUntil_2 n) w a1 a2 a3
def f_X9_passUntil (w : k_M) (a1 : Int32) (a2 : Int32) : Option (k_M × Int32) :=
  f_X9_passUntil_2 k_N w a1 a2 0
def f_X10_refuse (u : k_U) (a1 : Int32) : Option (k_U × Int32) :=
  k_ck (0 ≤ a1 ∧ a1 < 10) (k_ck (0 ≤ a1 ∧ a1 < 10) (k_lt (k_uc u 0 (k_up (u 0) 3 a1.toNatClampNeg ((u 0 3 a1.toNatClampNeg) + 1))) fun u9 => some (u9, (-a1))))
def f_X10_tick_12 (u : k_U) (a1 : Int32) : Option (k_U × (Int32 ⊕ Nat)) :=
  some (u, Sum.inr 1)
def f_X10_tick (u : k_U) (a1 : Int32) : Option (k_U × (Int32 ⊕ Nat)) :=
  (if a1 < 1 then f_X10_tick_12 u a1 else (if a1 ≤ 200 then k_bd (f_X9_hasLanded (u 10)) fun r27 => (if r27 = 0 then k_bd (f_X10_beginAct u) fun r40 => k_bd (f_X9_passUntil (r40 10) 0 a1) fun r49 => k_lt (k_uc r40 10 r49.1) fun u49 => some (u49, Sum.inl r49.2) else k_bd (f_X10_refuse u 1) fun r35 => some (r35.1, Sum.inl r35.2)) else f_X10_tick_12 u a1))
def f_X10_fallTo_11 (u : k_U) (a1 : Int32) : Option (k_U × (Int32 ⊕ Nat)) :=
  some (u, Sum.inr 1)
def f_X10_fallTo (u : k_U) (a1 : Int32) : Option (k_U × (Int32 ⊕ Nat)) :=
  (if a1 < 0 then f_X10_fallTo_11 u a1 else (if a1 ≤ 30000 then k_bd (f_X9_hasLanded (u 10)) fun r26 => (if r26 = 0 then (if a1 < (u 10 0 0) then k_bd (f_X10_beginAct u) fun r56 => k_bd (f_X9_passUntil (r56 10) a1 3000) fun r67 => k_lt (k_uc r56 10 r67.1) fun u67 => some (u67, Sum.inl r67.2) else k_bd (f_X10_refuse u 2) fun r51 => some (r51.1, Sum.inl r51.2)) else k_bd (f_X10_refuse u 1) fun r34 => some (r34.1, Sum.inl r34.2)) else f_X10_fallTo_11 u a1))
def f_X10_open (u : k_U) (a1 : Int32) : Option (k_U × (Int32 ⊕ Nat)) :=
  k_bd (f_X9_hasLayer (u 10) a1) fun r5 => (if r5 = 0 then some (u, Sum.inr 2) else k_bd (f_X9_hasLanded (u 10)) fun r26 => (if r26 = 0 then k_bd (f_X9_chuteAt (u 10) a1) fun r43 => k_ck (r43 = 2 ∨ (15 ≤ r43 ∧ r43 < 23)) ((if (u 10 r43 5) = 0 then (if (u 10 0 0) ≤ (u 10 r43 3) then (if (u 10 0 1) ≤ (u 10 r43 4) then k_bd (f_X10_beginAct u) fun r101 => k_bd (f_X9_openLayer (r101 10) a1) fun r109 => k_lt (k_uc r101 10 r109) fun u109 => some (u109, Sum.inl (u109 10 r43 5)) else k_bd (f_X10_refuse u 5) fun r96 => some (r96.1, Sum.inl r96.2)) else k_bd (f_X10_refuse u 4) fun r76 => some (r76.1, Sum.inl r76.2)) else k_bd (f_X10_refuse u 3) fun r56 => some (r56.1, Sum.inl r56.2))) else k_bd (f_X10_refuse u 1) fun r34 => some (r34.1, Sum.inl r34.2)))
def f_X10_openReserve_39 (u : k_U) : Option (k_U × Int32) :=
  k_bd (f_X10_refuse u 3) fun r41 => some (r41.1, r41.2)
def f_X10_openReserve (u : k_U) : Option (k_U × Int32) :=
  k_bd (f_X9_hasLanded (u 10)) fun r4 => (if r4 = 0 then (if (u 10 0 11) = 0 then f_X10_openReserve_39 u else (if (u 10 2 5) = 0 then (if (u 10 0 0) ≤ (u 10 2 3) then k_bd (f_X9_failedLayers (u 10)) fun r75 => (if (u 10 2 4) ≤ r75 then k_bd (f_X9_firstLayerThatMayOpen (u 10)) fun r104 => (if r104 = (-1) then k_bd (f_X10_beginAct u) fun r119 => k_bd (f_X9_openTheReserve (r119 10) r75) fun r127 => k_lt (k_uc r119 10 r127) fun u127 => some (u127, r75) else k_bd (f_X10_refuse u 7) fun r114 => some (r114.1, r114.2)) else k_bd (f_X10_refuse u 6) fun r96 => some (r96.1, r96.2)) else k_bd (f_X10_refuse u 4) fun r67 => some (r67.1, r67.2)) else f_X10_openReserve_39 u)) else k_bd (f_X10_refuse u 1) fun r12 => some (r12.1, r12.2))
def f_X9_hasChute (w : k_M) (a1 : Int32) : Option Int32 :=
  (if a1 < 0 then some 0 else k_bd (f_X9_chuteCount w) fun r6 => (if r6 ≤ a1 then some 0 else some 1))
def f_X9_cutAway (w : k_M) (a1 : Int32) : Option k_M :=
  k_bd (f_X9_chuteAt w a1) fun r2 => k_ck (r2 = 2 ∨ (15 ≤ r2 ∧ r2 < 23)) (k_lt (k_up w r2 5 4) fun w8 => k_bd (f_X0_linesThere w8 r2) fun r22 => k_bd (f_X1_keep w8 (w8 0 6) 5 a1 r22) fun r25 => some r25)
def f_X10_cut (u : k_U) (a1 : Int32) : Option (k_U × (Int32 ⊕ Nat)) :=
  k_bd (f_X9_hasChute (u 10) a1) fun r5 => (if r5 = 0 then some (u, Sum.inr 2) else k_bd (f_X9_hasLanded (u 10)) fun r25 => (if r25 = 0 then k_bd (f_X9_chuteAt (u 10) a1) fun r42 => k_ck (r42 = 2 ∨ (15 ≤ r42 ∧ r42 < 23)) ((if (u 10 r42 5) = 1 then k_bd (f_X10_beginAct u) fun r60 => k_bd (f_X9_cutAway (r60 10) a1) fun r68 => k_lt (k_uc r60 10 r68) fun u68 => k_bd (f_X9_openChutes (u68 10)) fun r75 => some (u68, Sum.inl r75) else k_bd (f_X10_refuse u 8) fun r55 => some (r55.1, Sum.inl r55.2))) else k_bd (f_X10_refuse u 1) fun r33 => some (r33.1, Sum.inl r33.2)))
def f_X10_steer_12 (u : k_U) (a1 : Int32) : Option (k_U × (Int32 ⊕ Nat)) :=
  some (u, Sum.inr 1)
def f_X10_steer (u : k_U) (a1 : Int32) : Option (k_U × (Int32 ⊕ Nat)) :=
  (if a1 < (-9) then f_X10_steer_12 u a1 else (if a1 ≤ 9 then k_bd (f_X9_hasLanded (u 10)) fun r27 => (if r27 = 0 then k_bd (f_X9_openChutes (u 10)) fun r43 => (if r43 = 0 then k_bd (f_X10_refuse u 8) fun r52 => some (r52.1, Sum.inl r52.2) else k_bd (f_X10_beginAct u) fun r57 => k_lt (r57 10 0 5) fun x67 => k_lt (k_uc r57 10 (k_up (r57 10) 0 5 a1)) fun u73 => some (u73, Sum.inl (x67 + 9))) else k_bd (f_X10_refuse u 1) fun r35 => some (r35.1, Sum.inl r35.2)) else f_X10_steer_12 u a1))
def f_X10_play_191 (K43 : k_U → Int32 → Int32 → Option (k_U × Int32)) (u : k_U) (a2 : Int32) (a3 : Int32) : Option (k_U × Int32) :=
  K43 u a2 a3
def f_X10_play_183 (K43 : k_U → Int32 → Int32 → Option (k_U × Int32)) (u : k_U) (a2 : Int32) (as0 : Int32) : Option (k_U × Int32) :=
  (if as0 = 0 then k_lt (a2 + 1) fun x188 => f_X10_play_191 K43 u x188 as0 else f_X10_play_191 K43 u a2 as0)
def f_X10_play_173 (K43 : k_U → Int32 → Int32 → Option (k_U × Int32)) (u : k_U) (a2 : Int32) (a5 : Int32) : Option (k_U × Int32) :=
  (if 0 ≤ a5 then f_X10_play_183 K43 u a2 0 else f_X10_play_183 K43 u a2 1)
def f_X10_play_43_b (K43 : k_U → Int32 → Int32 → Option (k_U × Int32)) (u : k_U) (a2 : Int32) (a3 : Int32) : Option (k_U × Int32) :=
  (if (u 2 0 2) ≤ a2 then some (u, a2) else (if a3 = 0 then k_ck (0 ≤ a2 ∧ a2 < 40) (k_lt (u 2 2 a2.toNatClampNeg) fun x67 => k_ck (0 ≤ a2 ∧ a2 < 40) ((if (u 2 1 a2.toNatClampNeg) = 0 then k_bd (k_no (f_X10_tick u x67)) fun r115 => f_X10_play_173 K43 r115.1 a2 r115.2 else (if (u 2 1 a2.toNatClampNeg) = 1 then k_bd (k_no (f_X10_fallTo u x67)) fun r126 => f_X10_play_173 K43 r126.1 a2 r126.2 else (if (u 2 1 a2.toNatClampNeg) = 2 then k_bd (k_no (f_X10_open u x67)) fun r137 => f_X10_play_173 K43 r137.1 a2 r137.2 else (if (u 2 1 a2.toNatClampNeg) = 3 then k_bd (f_X10_openReserve u) fun r146 => f_X10_play_173 K43 r146.1 a2 r146.2 else (if (u 2 1 a2.toNatClampNeg) = 4 then k_bd (k_no (f_X10_cut u x67)) fun r157 => f_X10_play_173 K43 r157.1 a2 r157.2 else k_bd (k_no (f_X10_steer u x67)) fun r168 => f_X10_play_173 K43 r168.1 a2 r168.2))))))) else some (u, a2)))
def f_X10_play_43 : Nat → k_U → Int32 → Int32 → Option (k_U × Int32)
  | 0 => fun _ _ _ => none
  | n + 1 => fun u a2 a3 => f_X10_play_43_b (f_X10_play_43 n) u a2 a3
def f_X10_play (u : k_U) : Option (k_U × Int32) :=
  k_bd (f_X9_chuteCount (u 10)) fun r19 => k_bd (f_X5_readCommands u (u 10 0 10) r19) fun r22 => k_bd (f_X4_emptyText (r22.1 1)) fun r30 => k_lt (k_uc r22.1 1 r30) fun u30 => (if r22.2 = 0 then some (u30, (-1)) else f_X10_play_43 k_N u30 0 0)
def f_X10_errorCode (u : k_U) : Option Int32 :=
  some (u 1 0 3)
def f_X10_errorPosition (u : k_U) : Option Int32 :=
  some (u 1 0 4)
def f_X10_capsule (u : k_U) (a1 : Int32) : Option (Int32 ⊕ Nat) :=
  (if a1 = 0 then some (Sum.inl (u 10 0 0)) else (if a1 = 1 then some (Sum.inl (u 10 0 1)) else (if a1 = 2 then some (Sum.inl (u 10 0 2)) else (if a1 = 3 then some (Sum.inl (u 10 0 3)) else (if a1 = 4 then some (Sum.inl (u 10 0 4)) else (if a1 = 5 then some (Sum.inl (u 10 0 5)) else (if a1 = 6 then some (Sum.inl (u 10 0 6)) else (if a1 = 7 then k_bd (f_X9_air (u 10)) fun r112 => some (Sum.inl r112) else (if a1 = 8 then k_bd (f_X9_landingResult (u 10)) fun r120 => some (Sum.inl r120) else some (Sum.inr 1))))))))))
def f_X9_countLines_66 (K16 : k_M → Int32 → Int32 → Int32 → Int32 → Int32 → Int32 → Option Int32) (w : k_M) (a1 : Int32) (a2 : Int32) (a3 : Int32) (a4 : Int32) (a5 : Int32) (a6 : Int32) : Option Int32 :=
  k_lt (a6 + 1) fun x66 => K16 w a1 a2 a3 a4 a5 x66
def f_X9_countLines_16_b (K16 : k_M → Int32 → Int32 → Int32 → Int32 → Int32 → Int32 → Option Int32) (w : k_M) (a1 : Int32) (a2 : Int32) (a3 : Int32) (a4 : Int32) (a5 : Int32) (a6 : Int32) : Option Int32 :=
  (if a5 ≤ a6 then (if a1 = 10 then some a2 else (if a1 = 11 then some ((a2 - a3) - a4) else (if a1 = 12 then some a3 else some a4))) else k_bd (f_X9_chuteAt w a6) fun r26 => k_ck (r26 = 2 ∨ (15 ≤ r26 ∧ r26 < 23)) (k_lt ((a2 + (w r26 1))) fun x38 => k_lt ((a3 + (w r26 7))) fun x46 => (if (w r26 5) = 4 then k_bd (f_X0_linesThere w r26) fun r60 => k_lt ((a4 + r60)) fun x64 => f_X9_countLines_66 K16 w a1 x38 x46 x64 a5 a6 else f_X9_countLines_66 K16 w a1 x38 x46 a4 a5 a6)))
def f_X9_countLines_16 : Nat → k_M → Int32 → Int32 → Int32 → Int32 → Int32 → Int32 → Option Int32
  | 0 => fun _ _ _ _ _ _ _ => none
  | n + 1 => fun w a1 a2 a3 a4 a5 a6 => f_X9_countLines_16_b (f_X9_countLines_16 n) w a1 a2 a3 a4 a5 a6
def f_X9_countLines (w : k_M) (a1 : Int32) : Option Int32 :=
  k_bd (f_X9_chuteCount w) fun r8 => f_X9_countLines_16 k_N w a1 0 0 0 r8 0
def f_X10_size_10 (u : k_U) (a1 : Int32) : Option (Int32 ⊕ Nat) :=
  some (Sum.inr 1)
def f_X10_size (u : k_U) (a1 : Int32) : Option (Int32 ⊕ Nat) :=
  (if a1 < 0 then f_X10_size_10 u a1 else (if a1 ≤ 15 then (if a1 = 0 then some (Sum.inl (u 10 0 10)) else (if a1 = 1 then (if (u 10 0 11) = 0 then some (Sum.inl 0) else some (Sum.inl 1)) else (if a1 = 2 then some (Sum.inl (u 10 3 2)) else (if a1 = 3 then some (Sum.inl (u 10 6 2)) else (if a1 = 4 then some (Sum.inl (u 10 9 3)) else (if a1 = 5 then some (Sum.inl (u 10 0 7)) else (if a1 = 6 then k_bd (f_X9_openChutes (u 10)) fun r169 => some (Sum.inl r169) else (if a1 = 7 then k_bd (f_X9_failedLayers (u 10)) fun r177 => some (Sum.inl r177) else (if a1 = 8 then some (Sum.inl (u 10 13 2)) else (if a1 = 9 then some (Sum.inl (u 4 0 2)) else (if a1 = 10 then k_bd (f_X9_countLines (u 10) a1) fun r221 => some (Sum.inl r221) else (if a1 = 11 then k_bd (f_X9_countLines (u 10) a1) fun r221 => some (Sum.inl r221) else (if a1 = 12 then k_bd (f_X9_countLines (u 10) a1) fun r221 => some (Sum.inl r221) else (if a1 = 13 then k_bd (f_X9_countLines (u 10) a1) fun r221 => some (Sum.inl r221) else (if a1 = 14 then some (Sum.inl (u 10 0 8)) else (if a1 = 15 then some (Sum.inl (u 10 0 9)) else k_bd (f_X9_countLines (u 10) a1) fun r221 => some (Sum.inl r221))))))))))))))))) else f_X10_size_10 u a1))
def f_X10_chute (u : k_U) (a1 : Int32) (a2 : Int32) : Option (Int32 ⊕ Nat) :=
  k_bd (f_X9_hasChute (u 10) a1) fun r5 => (if r5 = 0 then some (Sum.inr 2) else k_bd (f_X9_chuteAt (u 10) a1) fun r26 => k_ck (r26 = 2 ∨ (15 ≤ r26 ∧ r26 < 23)) ((if a2 = 0 then some (Sum.inl (u 10 r26 0)) else (if a2 = 1 then some (Sum.inl (u 10 r26 1)) else (if a2 = 2 then some (Sum.inl (u 10 r26 2)) else (if a2 = 3 then some (Sum.inl (u 10 r26 3)) else (if a2 = 4 then some (Sum.inl (u 10 r26 4)) else (if a2 = 5 then some (Sum.inl (u 10 r26 5)) else (if a2 = 6 then (if (u 10 r26 5) = 4 then some (Sum.inl 0) else k_bd (f_X0_linesThere (u 10) r26) fun r119 => some (Sum.inl r119)) else (if a2 = 7 then (if (u 10 r26 6) = 0 then some (Sum.inl 0) else some (Sum.inl 1)) else some (Sum.inr 1)))))))))))
def f_X10_line_42 (u : k_U) (a1 : Int32) (a2 : Int32) : Option (Int32 ⊕ Nat) :=
  some (Sum.inr 2)
def f_X10_line (u : k_U) (a1 : Int32) (a2 : Int32) : Option (Int32 ⊕ Nat) :=
  k_bd (f_X9_hasChute (u 10) a1) fun r5 => (if r5 = 0 then some (Sum.inr 2) else k_bd (f_X9_chuteAt (u 10) a1) fun r26 => k_ck (r26 = 2 ∨ (15 ≤ r26 ∧ r26 < 23)) ((if a2 < 0 then f_X10_line_42 u a1 a2 else (if a2 < (u 10 r26 1) then (if (u 10 r26 7) ≤ a2 then k_bd (f_X0_strengthOf (u 10) r26 a2) fun r67 => some (Sum.inl r67) else some (Sum.inl (-1))) else f_X10_line_42 u a1 a2))))
def f_X10_targetAt_11 (u : k_U) (a1 : Int32) : Option (Int32 ⊕ Nat) :=
  some (Sum.inr 1)
def f_X10_targetAt (u : k_U) (a1 : Int32) : Option (Int32 ⊕ Nat) :=
  (if a1 < 0 then f_X10_targetAt_11 u a1 else (if a1 ≤ 30000 then k_bd (f_X2_valueAtOrAbove (u 10) 3 a1 (-1)) fun r31 => some (Sum.inl r31) else f_X10_targetAt_11 u a1))
def f_X10_windAt_11 (u : k_U) (a1 : Int32) : Option (Int32 ⊕ Nat) :=
  some (Sum.inr 1)
def f_X10_windAt (u : k_U) (a1 : Int32) : Option (Int32 ⊕ Nat) :=
  (if a1 < 0 then f_X10_windAt_11 u a1 else (if a1 ≤ 30000 then k_bd (f_X2_valueAtOrBelow (u 10) 6 a1 0) fun r31 => some (Sum.inl r31) else f_X10_windAt_11 u a1))
def f_X8_has (w : k_M) (a1 : Int32) : Option Int32 :=
  (if a1 < 0 then some 0 else (if (w 9 3) ≤ a1 then some 0 else some 1))
def f_X10_spot (u : k_U) (a1 : Int32) (a2 : Int32) : Option (Int32 ⊕ Nat) :=
  k_bd (f_X8_has (u 10) a1) fun r8 => (if r8 = 0 then some (Sum.inr 2) else (if a2 = 0 then k_ck (0 ≤ a1 ∧ a1 < 8) (some (Sum.inl (u 10 10 a1.toNatClampNeg))) else (if a2 = 1 then k_ck (0 ≤ a1 ∧ a1 < 8) (some (Sum.inl (u 10 11 a1.toNatClampNeg))) else (if a2 = 2 then k_ck (0 ≤ a1 ∧ a1 < 8) (some (Sum.inl (u 10 12 a1.toNatClampNeg))) else some (Sum.inr 1)))))
def f_X1_partOf (w : k_M) (a1 : Int32) (a2 : Int32) : Option Int32 :=
  k_ck (0 ≤ (((((w 13 1) + a1) - ((w 13 1) + a1) / 30 * 30) * 4) + a2) ∧ (((((w 13 1) + a1) - ((w 13 1) + a1) / 30 * 30) * 4) + a2) < 120) (some (w 14 ((((((w 13 1) + a1) - ((w 13 1) + a1) / 30 * 30) * 4) + a2).toNatClampNeg)))
def f_X10_event_38 (u : k_U) (a1 : Int32) (a2 : Int32) : Option (Int32 ⊕ Nat) :=
  some (Sum.inr 1)
def f_X10_event_18 (u : k_U) (a1 : Int32) (a2 : Int32) : Option (Int32 ⊕ Nat) :=
  some (Sum.inr 3)
def f_X10_event (u : k_U) (a1 : Int32) (a2 : Int32) : Option (Int32 ⊕ Nat) :=
  (if a1 < 0 then f_X10_event_18 u a1 a2 else (if a1 < (u 10 13 2) then (if a2 < 0 then f_X10_event_38 u a1 a2 else (if a2 < 4 then k_bd (f_X1_partOf (u 10) a1 a2) fun r58 => some (Sum.inl r58) else f_X10_event_38 u a1 a2)) else f_X10_event_18 u a1 a2))
def f_X10_account_10 (u : k_U) (a1 : Int32) : Option (Int32 ⊕ Nat) :=
  some (Sum.inr 1)
def f_X10_account (u : k_U) (a1 : Int32) : Option (Int32 ⊕ Nat) :=
  (if a1 < 0 then f_X10_account_10 u a1 else (if a1 < 10 then k_ck (0 ≤ a1 ∧ a1 < 10) (some (Sum.inl (u 0 3 a1.toNatClampNeg))) else f_X10_account_10 u a1))
def f_X10_asks (u : k_U) : Option Int32 :=
  k_bd (f_X9_asksForBrakes (u 10)) fun r4 => k_ck (r4 = 0 ∨ r4 = 1) (some r4)
def f_X9_whyLayer (w : k_M) (a1 : Int32) : Option Int32 :=
  k_ck (0 ≤ a1 ∧ a1 < 8) ((if (w (15 + a1.toNatClampNeg) 5) = 1 then some 0 else (if (w (15 + a1.toNatClampNeg) 5) = 2 then some 1 else (if (w (15 + a1.toNatClampNeg) 5) = 3 then some 2 else (if (w (15 + a1.toNatClampNeg) 5) = 4 then some 3 else (if (w 0 0) ≤ (w (15 + a1.toNatClampNeg) 3) then (if (w 0 1) ≤ (w (15 + a1.toNatClampNeg) 4) then k_bd (f_X9_asksForBrakes w) fun r75 => (if r75 = 0 then some 6 else k_bd (f_X9_firstLayerThatMayOpen w) fun r85 => (if a1 ≤ r85 then some 8 else some 7)) else some 5) else some 4))))))
def f_X10_why (u : k_U) (a1 : Int32) : Option (Int32 ⊕ Nat) :=
  k_bd (f_X9_hasLayer (u 10) a1) fun r5 => (if r5 = 0 then some (Sum.inr 2) else k_bd (f_X9_whyLayer (u 10) a1) fun r27 => some (Sum.inl r27))
def f_X9_whyOfReserve (w : k_M) : Option Int32 :=
  (if (w 0 11) = 0 then some 1 else (if (w 2 5) = 1 then some 0 else (if (w 2 5) = 0 then (if (w 0 0) ≤ (w 2 3) then k_bd (f_X9_failedLayers w) fun r51 => (if (w 2 4) ≤ r51 then k_bd (f_X9_firstLayerThatMayOpen w) fun r67 => (if r67 = (-1) then k_bd (f_X9_asksForBrakes w) fun r77 => (if r77 = 0 then some 6 else some 7) else some 5) else some 4) else some 3) else some 2)))
def f_X10_whyReserve (u : k_U) : Option Int32 :=
  k_bd (f_X9_whyOfReserve (u 10)) fun r4 => some r4
def f_X10_loadOn (u : k_U) (a1 : Int32) : Option (Int32 ⊕ Nat) :=
  k_bd (f_X9_hasChute (u 10) a1) fun r5 => (if r5 = 0 then some (Sum.inr 2) else k_bd (f_X9_chuteAt (u 10) a1) fun r26 => k_ck (r26 = 2 ∨ (15 ≤ r26 ∧ r26 < 23)) ((if (u 10 r26 5) = 1 then k_bd (f_X9_air (u 10)) fun r45 => k_bd (f_X0_pull (u 10) r26 r45 (u 10 0 1)) fun r55 => k_bd (f_X0_loadOfOneLine (u 10) r26 r55 (u 10 0 5) (u 10 r26 7)) fun r72 => some (Sum.inl r72.toInt32) else some (Sum.inl 0))))
def f_X10_wouldTear (u : k_U) (a1 : Int32) : Option (Int32 ⊕ Nat) :=
  k_bd (f_X9_hasChute (u 10) a1) fun r5 => (if r5 = 0 then some (Sum.inr 2) else k_bd (f_X9_chuteAt (u 10) a1) fun r26 => k_ck (r26 = 2 ∨ (15 ≤ r26 ∧ r26 < 23)) ((if (u 10 r26 5) = 1 then k_bd (f_X9_air (u 10)) fun r45 => k_bd (f_X0_pull (u 10) r26 r45 (u 10 0 1)) fun r55 => k_bd (f_X0_linesThatTear (u 10) r26 r55 (u 10 0 5) (u 10 0 4)) fun r75 => some (Sum.inl r75) else some (Sum.inl 0))))
def f_X10_foretellLanding (u : k_U) : Option (k_U × Int32) :=
  k_bd (f_X9_copyFrom (u 11) (u 10)) fun r8 => k_lt (k_uc u 11 r8) fun u8 => k_bd (f_X9_passUntil (u8 11) 0 3000) fun r19 => k_lt (k_uc u8 11 r19.1) fun u19 => some (u19, r19.2)
def f_X10_landIn (u : k_U) : Option (k_U × Int32) :=
  k_bd (f_X10_foretellLanding u) fun r1 => k_bd (f_X9_hasLanded (r1.1 11)) fun r9 => (if r9 = 0 then some (r1.1, (-1)) else some (r1.1, r1.2))
def f_X10_landAt (u : k_U) : Option (k_U × (Int32 ⊕ Nat)) :=
  k_bd (f_X10_foretellLanding u) fun r1 => k_bd (f_X9_hasLanded (r1.1 11)) fun r9 => (if r9 = 0 then some (r1.1, Sum.inr 3) else some (r1.1, Sum.inl (r1.1 11 0 2)))
def f_X10_landSpeed (u : k_U) : Option (k_U × Int32) :=
  k_bd (f_X10_foretellLanding u) fun r1 => k_bd (f_X9_hasLanded (r1.1 11)) fun r9 => (if r9 = 0 then some (r1.1, (-1)) else some (r1.1, r1.1 11 0 1))
def f_X10_landResult (u : k_U) : Option (k_U × Int32) :=
  k_bd (f_X10_foretellLanding u) fun r1 => k_bd (f_X9_hasLanded (r1.1 11)) fun r9 => (if r9 = 0 then some (r1.1, (-1)) else k_bd (f_X9_landingResult (r1.1 11)) fun r19 => some (r1.1, r19))
def f_X10_failsIn_80 (u : k_U) (a1 : Int32) (q2 : Nat) (a3 : Int32) : Option (k_U × (Int32 ⊕ Nat)) :=
  k_bd (f_X0_hasFailed (u 11) q2) fun r81 => (if r81 = 0 then some (u, Sum.inl (-1)) else some (u, Sum.inl a3))
def f_X10_failsIn_43_b (K43 : k_U → Int32 → Nat → Int32 → Option (k_U × (Int32 ⊕ Nat))) (u : k_U) (a1 : Int32) (q2 : Nat) (a3 : Int32) : Option (k_U × (Int32 ⊕ Nat)) :=
  k_bd (f_X0_hasFailed (u 11) q2) fun r44 => (if r44 = 0 then k_bd (f_X9_hasLanded (u 11)) fun r54 => (if r54 = 0 then (if 3000 ≤ a3 then f_X10_failsIn_80 u a1 q2 a3 else k_bd (f_X9_passSecond (u 11)) fun r71 => k_lt (k_uc u 11 r71) fun u71 => k_lt (a3 + 1) fun x74 => K43 u71 a1 q2 x74) else f_X10_failsIn_80 u a1 q2 a3) else f_X10_failsIn_80 u a1 q2 a3)
def f_X10_failsIn_43 : Nat → k_U → Int32 → Nat → Int32 → Option (k_U × (Int32 ⊕ Nat))
  | 0 => fun _ _ _ _ => none
  | n + 1 => fun u a1 q2 a3 => f_X10_failsIn_43_b (f_X10_failsIn_43 n) u a1 q2 a3
def f_X10_failsIn (u : k_U) (a1 : Int32) : Option (k_U × (Int32 ⊕ Nat)) :=
  k_bd (f_X9_hasChute (u 10) a1) fun r5 => (if r5 = 0 then some (u, Sum.inr 2) else k_bd (f_X9_copyFrom (u 11) (u 10)) fun r29 => k_lt (k_uc u 11 r29) fun u29 => k_bd (f_X9_chuteAt (u29 11) a1) fun r37 => k_ck (r37 = 2 ∨ (15 ≤ r37 ∧ r37 < 23)) (f_X10_failsIn_43 k_N u29 a1 r37 0))
def f_X10_reserveIn_71 (u : k_U) (a2 : Int32) : Option (k_U × Int32) :=
  (if (u 11 2 5) = 1 then some (u, a2) else some (u, (-1)))
def f_X10_reserveIn_33_b (K33 : k_U → Int32 → Option (k_U × Int32)) (u : k_U) (a2 : Int32) : Option (k_U × Int32) :=
  (if (u 11 2 5) = 1 then f_X10_reserveIn_71 u a2 else k_bd (f_X9_hasLanded (u 11)) fun r45 => (if r45 = 0 then (if 3000 ≤ a2 then f_X10_reserveIn_71 u a2 else k_bd (f_X9_passSecond (u 11)) fun r62 => k_lt (k_uc u 11 r62) fun u62 => k_lt (a2 + 1) fun x65 => K33 u62 x65) else f_X10_reserveIn_71 u a2))
def f_X10_reserveIn_33 : Nat → k_U → Int32 → Option (k_U × Int32)
  | 0 => fun _ _ => none
  | n + 1 => fun u a2 => f_X10_reserveIn_33_b (f_X10_reserveIn_33 n) u a2
def f_X10_reserveIn (u : k_U) : Option (k_U × Int32) :=
  (if (u 10 0 11) = 0 then some (u, (-1)) else k_bd (f_X9_copyFrom (u 11) (u 10)) fun r20 => k_lt (k_uc u 11 r20) fun u20 => f_X10_reserveIn_33 k_N u20 0)
def f_X10_hottest_21_b (K21 : k_U → Int32 → Int32 → Option (k_U × Int32)) (u : k_U) (a1 : Int32) (a2 : Int32) : Option (k_U × Int32) :=
  (if 3000 ≤ a2 then some (u, a1) else k_bd (f_X9_hasLanded (u 11)) fun r32 => (if r32 = 0 then k_bd (f_X9_passSecond (u 11)) fun r42 => k_lt (k_uc u 11 r42) fun u42 => k_lt ((k_maxi a1 (u42 11 0 4))) fun x56 => k_lt (a2 + 1) fun x57 => K21 u42 x56 x57 else some (u, a1)))
def f_X10_hottest_21 : Nat → k_U → Int32 → Int32 → Option (k_U × Int32)
  | 0 => fun _ _ _ => none
  | n + 1 => fun u a1 a2 => f_X10_hottest_21_b (f_X10_hottest_21 n) u a1 a2
def f_X10_hottest (u : k_U) : Option (k_U × Int32) :=
  k_bd (f_X9_copyFrom (u 11) (u 10)) fun r8 => k_lt (k_uc u 11 r8) fun u8 => k_lt (u8 11 0 4) fun x18 => f_X10_hottest_21 k_N u8 x18 0
def f_X10_foretellLandingWithSlip (u : k_U) (a1 : Int32) : Option k_U :=
  k_bd (f_X9_copyFrom (u 11) (u 10)) fun r8 => k_lt (k_uc u 11 r8) fun u8 => k_lt (k_uc u8 11 (k_up (u8 11) 0 5 a1)) fun u16 => k_bd (f_X9_passUntil (u16 11) 0 3000) fun r27 => k_lt (k_uc u16 11 r27.1) fun u27 => some u27
def f_X10_bestSlip_118 (K32 : k_U → Int32 → Int32 → Int32 → Int32 → Option (k_U × (Int32 ⊕ Nat))) (u : k_U) (a1 : Int32) (a2 : Int32) (a3 : Int32) (a4 : Int32) : Option (k_U × (Int32 ⊕ Nat)) :=
  k_lt (a4 + 1) fun x118 => K32 u a1 a2 a3 x118
def f_X10_bestSlip_109 (K32 : k_U → Int32 → Int32 → Int32 → Int32 → Option (k_U × (Int32 ⊕ Nat))) (u : k_U) (a1 : Int32) (a4 : Int32) (a5 : Int32) (a6 : Int32) : Option (k_U × (Int32 ⊕ Nat)) :=
  k_lt ((a5 + 9)) fun x114 => f_X10_bestSlip_118 K32 u a1 x114 a6 a4
def f_X10_bestSlip_60 (K32 : k_U → Int32 → Int32 → Int32 → Int32 → Option (k_U × (Int32 ⊕ Nat))) (u : k_U) (a1 : Int32) (a2 : Int32) (a3 : Int32) (a4 : Int32) (as0 : Int32) : Option (k_U × (Int32 ⊕ Nat)) :=
  k_bd (f_X10_foretellLandingWithSlip u as0) fun r65 => k_bd (f_X8_distanceTo (r65 10) a1 (r65 11 0 2)) fun r83 => k_bd (f_X9_hasLanded (r65 11)) fun r92 => (if r92 = 0 then f_X10_bestSlip_118 K32 r65 a1 a2 a3 a4 else (if a2 = (-1) then f_X10_bestSlip_109 K32 r65 a1 a4 as0 r83 else (if a3 ≤ r83 then f_X10_bestSlip_118 K32 r65 a1 a2 a3 a4 else f_X10_bestSlip_109 K32 r65 a1 a4 as0 r83)))
def f_X10_bestSlip_32_b (K32 : k_U → Int32 → Int32 → Int32 → Int32 → Option (k_U × (Int32 ⊕ Nat))) (u : k_U) (a1 : Int32) (a2 : Int32) (a3 : Int32) (a4 : Int32) : Option (k_U × (Int32 ⊕ Nat)) :=
  (if 18 < a4 then some (u, Sum.inl a2) else (if (a4 - a4 / 2 * 2) = 0 then f_X10_bestSlip_60 K32 u a1 a2 a3 a4 (a4 / 2) else f_X10_bestSlip_60 K32 u a1 a2 a3 a4 ((-(a4 + 1)) / 2)))
def f_X10_bestSlip_32 : Nat → k_U → Int32 → Int32 → Int32 → Int32 → Option (k_U × (Int32 ⊕ Nat))
  | 0 => fun _ _ _ _ _ => none
  | n + 1 => fun u a1 a2 a3 a4 => f_X10_bestSlip_32_b (f_X10_bestSlip_32 n) u a1 a2 a3 a4
def f_X10_bestSlip (u : k_U) (a1 : Int32) : Option (k_U × (Int32 ⊕ Nat)) :=
  k_bd (f_X8_has (u 10) a1) fun r8 => (if r8 = 0 then some (u, Sum.inr 2) else f_X10_bestSlip_32 k_N u a1 (-1) 0 0)
def f_X8_allWith_27 (K4 : k_M → Int32 → Int32 → Int32 → Option Int32) (w : k_M) (a1 : Int32) (a2 : Int32) (a3 : Int32) : Option Int32 :=
  k_lt (a3 + 1) fun x27 => K4 w a1 a2 x27
def f_X8_allWith_4_b (K4 : k_M → Int32 → Int32 → Int32 → Option Int32) (w : k_M) (a1 : Int32) (a2 : Int32) (a3 : Int32) : Option Int32 :=
  (if (w 9 3) ≤ a3 then some a2 else k_bd (f_X8_distanceTo w a3 a1) fun r15 => (if r15 = 0 then k_lt ((a2 ||| (1 <<< (a3 &&& 31)))) fun x26 => f_X8_allWith_27 K4 w a1 x26 a3 else f_X8_allWith_27 K4 w a1 a2 a3))
def f_X8_allWith_4 : Nat → k_M → Int32 → Int32 → Int32 → Option Int32
  | 0 => fun _ _ _ _ => none
  | n + 1 => fun w a1 a2 a3 => f_X8_allWith_4_b (f_X8_allWith_4 n) w a1 a2 a3
def f_X8_allWith (w : k_M) (a1 : Int32) : Option Int32 :=
  f_X8_allWith_4 k_N w a1 0 0
def f_X10_reachable_46 (K5 : k_U → Int32 → Int32 → Option (k_U × Int32)) (u : k_U) (a1 : Int32) (a2 : Int32) : Option (k_U × Int32) :=
  k_lt (a2 + 1) fun x46 => K5 u a1 x46
def f_X10_reachable_5_b (K5 : k_U → Int32 → Int32 → Option (k_U × Int32)) (u : k_U) (a1 : Int32) (a2 : Int32) : Option (k_U × Int32) :=
  (if 9 < a2 then some (u, a1) else k_bd (f_X10_foretellLandingWithSlip u a2) fun r13 => k_bd (f_X9_hasLanded (r13 11)) fun r20 => (if r20 = 0 then f_X10_reachable_46 K5 r13 a1 a2 else k_bd (f_X8_allWith (r13 10) (r13 11 0 2)) fun r41 => k_lt ((a1 ||| r41)) fun x45 => f_X10_reachable_46 K5 r13 x45 a2))
def f_X10_reachable_5 : Nat → k_U → Int32 → Int32 → Option (k_U × Int32)
  | 0 => fun _ _ _ => none
  | n + 1 => fun u a1 a2 => f_X10_reachable_5_b (f_X10_reachable_5 n) u a1 a2
def f_X10_reachable (u : k_U) : Option (k_U × Int32) :=
  f_X10_reachable_5 k_N u 0 (-9)
def f_X2_hasPlaceFor (w : k_M) (tc : Nat) (a1 : Int32) : Option Int32 :=
  (if (w tc 2) < 8 then some 1 else k_bd (f_X2_placeOf w tc a1) fun r11 => (if r11 = (-1) then some 0 else some 1))
def f_X10_setTarget_35 (u : k_U) (a1 : Int32) (a2 : Int32) : Option (k_U × (Int32 ⊕ Nat)) :=
  some (u, Sum.inr 1)
def f_X10_setTarget_12 (u : k_U) (a1 : Int32) (a2 : Int32) : Option (k_U × (Int32 ⊕ Nat)) :=
  some (u, Sum.inr 1)
def f_X10_setTarget (u : k_U) (a1 : Int32) (a2 : Int32) : Option (k_U × (Int32 ⊕ Nat)) :=
  (if a1 < 1 then f_X10_setTarget_12 u a1 a2 else (if a1 ≤ 30000 then (if a2 < 1 then f_X10_setTarget_35 u a1 a2 else (if a2 ≤ 400 then k_bd (f_X2_hasPlaceFor (u 10) 3 a1) fun r54 => (if r54 = 0 then k_bd (f_X10_refuse u 9) fun r63 => some (r63.1, Sum.inl r63.2) else k_bd (f_X10_beginAct u) fun r68 => k_bd (f_X2_put (r68 10) 3 a1 a2) fun r80 => k_lt (k_uc r68 10 r80) fun u80 => some (u80, Sum.inl (u80 10 3 2))) else f_X10_setTarget_35 u a1 a2)) else f_X10_setTarget_12 u a1 a2))
def f_X9_packedJammedLayers_39 (K4 : k_M → Int32 → Int32 → Option Int32) (w : k_M) (a1 : Int32) (a2 : Int32) : Option Int32 :=
  k_lt (a2 + 1) fun x39 => K4 w a1 x39
def f_X9_packedJammedLayers_4_b (K4 : k_M → Int32 → Int32 → Option Int32) (w : k_M) (a1 : Int32) (a2 : Int32) : Option Int32 :=
  (if (w 0 10) ≤ a2 then some a1 else k_ck (0 ≤ a2 ∧ a2 < 8) ((if (w (15 + a2.toNatClampNeg) 5) = 0 then k_ck (0 ≤ a2 ∧ a2 < 8) ((if (w (15 + a2.toNatClampNeg) 6) = 0 then f_X9_packedJammedLayers_39 K4 w a1 a2 else k_lt (a1 + 1) fun x36 => f_X9_packedJammedLayers_39 K4 w x36 a2)) else f_X9_packedJammedLayers_39 K4 w a1 a2)))
def f_X9_packedJammedLayers_4 : Nat → k_M → Int32 → Int32 → Option Int32
  | 0 => fun _ _ _ => none
  | n + 1 => fun w a1 a2 => f_X9_packedJammedLayers_4_b (f_X9_packedJammedLayers_4 n) w a1 a2
def f_X9_packedJammedLayers (w : k_M) : Option Int32 :=
  f_X9_packedJammedLayers_4 k_N w 0 0
def f_X10_jam (u : k_U) (a1 : Int32) (a2 : Int32) : Option (k_U × (Int32 ⊕ Nat)) :=
  k_bd (f_X9_hasLayer (u 10) a1) fun r5 => (if r5 = 0 then some (u, Sum.inr 2) else k_bd (f_X9_chuteAt (u 10) a1) fun r27 => k_ck (r27 = 2 ∨ (15 ≤ r27 ∧ r27 < 23)) ((if (u 10 r27 5) = 0 then k_bd (f_X10_beginAct u) fun r45 => k_ck (a2 = 0 ∨ a2 = 1) (k_lt (k_uc r45 10 (k_up (r45 10) r27 6 a2)) fun u50 => k_bd (f_X9_packedJammedLayers (u50 10)) fun r57 => some (u50, Sum.inl r57)) else k_bd (f_X10_refuse u 3) fun r40 => some (r40.1, Sum.inl r40.2))))
def f_X7_wipe (w : k_M) : Option k_M :=
  k_lt (k_up w 0 1 0) fun w2 => some w2
def f_X7_put (w : k_M) (a1 : Int32) : Option k_M :=
  (if 64 ≤ (w 0 1) then some w else k_ck (0 ≤ (w 0 1) ∧ (w 0 1) < 64) (k_lt (k_up w 1 ((w 0 1).toNatClampNeg) a1) fun w18 => k_lt (k_up w18 0 1 ((w18 0 1) + 1)) fun w26 => some w26))
def f_X0_letter (w : k_M) (q : Nat) : Option Int32 :=
  (if (w q 5) = 0 then some 80 else (if (w q 5) = 1 then some 79 else (if (w q 5) = 2 then some 84 else (if (w q 5) = 3 then some 74 else some 67))))
def f_X7_putNumber_21 (w : k_M) (a1 : Int32) : Option k_M :=
  k_bd (f_X7_put w (((48 + (a1 - a1 / 10 * 10)).toUInt32 % 65536).toInt32)) fun r30 => some r30
def f_X7_putNumber (w : k_M) (a1 : Int32) : Option k_M :=
  (if a1 < 10 then f_X7_putNumber_21 w a1 else k_bd (f_X7_put w (((48 + ((a1 / 10) - (a1 / 10) / 10 * 10)).toUInt32 % 65536).toInt32)) fun r18 => f_X7_putNumber_21 r18 a1)
def f_X10_write_101 (K17 : k_U → Int32 → Int32 → Option (k_U × Int32)) (u : k_U) (a1 : Int32) (a2 : Int32) : Option (k_U × Int32) :=
  k_lt (a2 + 1) fun x101 => K17 u a1 x101
def f_X10_write_90 (K17 : k_U → Int32 → Int32 → Option (k_U × Int32)) (u : k_U) (a1 : Int32) (a2 : Int32) (q3 : Nat) : Option (k_U × Int32) :=
  k_bd (f_X0_linesThere (u 10) q3) fun r95 => k_bd (f_X7_putNumber (u 3) r95) fun r98 => k_lt (k_uc u 3 r98) fun u98 => f_X10_write_101 K17 u98 a1 a2
def f_X10_write_55 (K17 : k_U → Int32 → Int32 → Option (k_U × Int32)) (u : k_U) (a1 : Int32) (a2 : Int32) : Option (k_U × Int32) :=
  k_bd (f_X9_chuteAt (u 10) a2) fun r60 => k_ck (r60 = 2 ∨ (15 ≤ r60 ∧ r60 < 23)) (k_bd (f_X0_letter (u 10) r60) fun r69 => k_bd (f_X7_put (u 3) r69) fun r72 => k_lt (k_uc u 3 r72) fun u72 => (if (u72 10 r60 5) = 0 then f_X10_write_90 K17 u72 a1 a2 r60 else (if (u72 10 r60 5) = 1 then f_X10_write_90 K17 u72 a1 a2 r60 else f_X10_write_101 K17 u72 a1 a2)))
def f_X10_write_35 (K17 : k_U → Int32 → Int32 → Option (k_U × Int32)) (u : k_U) (a1 : Int32) (a2 : Int32) : Option (k_U × Int32) :=
  (if a2 = (u 10 0 10) then k_bd (f_X7_put (u 3) 82) fun r52 => k_lt (k_uc u 3 r52) fun u52 => f_X10_write_55 K17 u52 a1 a2 else f_X10_write_55 K17 u a1 a2)
def f_X10_write_17_b (K17 : k_U → Int32 → Int32 → Option (k_U × Int32)) (u : k_U) (a1 : Int32) (a2 : Int32) : Option (k_U × Int32) :=
  (if a1 ≤ a2 then some (u, u 3 0 1) else (if a2 ≤ 0 then f_X10_write_35 K17 u a1 a2 else k_bd (f_X7_put (u 3) 32) fun r32 => k_lt (k_uc u 3 r32) fun u32 => f_X10_write_35 K17 u32 a1 a2))
def f_X10_write_17 : Nat → k_U → Int32 → Int32 → Option (k_U × Int32)
  | 0 => fun _ _ _ => none
  | n + 1 => fun u a1 a2 => f_X10_write_17_b (f_X10_write_17 n) u a1 a2
def f_X10_write (u : k_U) : Option (k_U × Int32) :=
  k_bd (f_X7_wipe (u 3)) fun r4 => k_lt (k_uc u 3 r4) fun u4 => k_bd (f_X9_chuteCount (u4 10)) fun r11 => f_X10_write_17 k_N u4 r11 0
def f_X10_output_15 (u : k_U) (a1 : Int32) : Option (Int32 ⊕ Nat) :=
  some (Sum.inr 2)
def f_X10_output (u : k_U) (a1 : Int32) : Option (Int32 ⊕ Nat) :=
  (if a1 < 0 then f_X10_output_15 u a1 else (if a1 < (u 3 0 1) then k_ck (0 ≤ a1 ∧ a1 < 64) (some (Sum.inl (u 3 1 a1.toNatClampNeg))) else f_X10_output_15 u a1))
def f_X3_bringBack (u : k_U) : Option k_U :=
  (if (u 4 0 2) ≤ 0 then some u else k_lt (k_uc u 4 (k_up (u 4) 0 1 ((((u 4 0 1) + 8) - 1) - (((u 4 0 1) + 8) - 1) / 8 * 8))) fun u20 => k_lt (k_uc u20 4 (k_up (u20 4) 0 2 ((u20 4 0 2) - 1))) fun u30 => k_ck (0 ≤ (u30 4 0 1) ∧ (u30 4 0 1) < 8) (k_bd (f_X9_copyFrom (u30 10) (u30 (15 + (u30 4 0 1).toNatClampNeg))) fun r43 => k_lt (k_uc u30 10 r43) fun u43 => some u43))
def f_X10_undo (u : k_U) : Option (k_U × (Int32 ⊕ Nat)) :=
  (if (u 4 0 2) = 0 then some (u, Sum.inr 0) else k_bd (f_X3_bringBack u) fun r29 => some (r29, Sum.inl (r29 4 0 2)))
def f_X10_save_9 (u : k_U) (a1 : Int32) : Option (k_U × (Int32 ⊕ Nat)) :=
  some (u, Sum.inr 2)
def f_X10_save (u : k_U) (a1 : Int32) : Option (k_U × (Int32 ⊕ Nat)) :=
  (if a1 < 0 then f_X10_save_9 u a1 else (if a1 < 2 then k_ck (0 ≤ a1 ∧ a1 < 2) (k_bd (f_X9_copyFrom (u (12 + a1.toNatClampNeg)) (u 10)) fun r30 => k_lt (k_uc u (12 + a1.toNatClampNeg) r30) fun u30 => k_ck (0 ≤ a1 ∧ a1 < 2) (k_lt (k_uc u30 0 (k_up (u30 0) 2 a1.toNatClampNeg (1 &&& 1))) fun u39 => some (u39, Sum.inl (u39 10 0 6)))) else f_X10_save_9 u a1))
def f_X10_restore_9 (u : k_U) (a1 : Int32) : Option (k_U × (Int32 ⊕ Nat)) :=
  some (u, Sum.inr 2)
def f_X10_restore (u : k_U) (a1 : Int32) : Option (k_U × (Int32 ⊕ Nat)) :=
  (if a1 < 0 then f_X10_restore_9 u a1 else (if a1 < 2 then k_ck (0 ≤ a1 ∧ a1 < 2) ((if (u 0 2 a1.toNatClampNeg) = 0 then some (u, Sum.inr 0) else k_ck (0 ≤ a1 ∧ a1 < 2) (k_bd (f_X9_copyFrom (u 10) (u (12 + a1.toNatClampNeg))) fun r50 => k_lt (k_uc u 10 r50) fun u50 => k_bd (f_X3_forget u50) fun r57 => some (r57, Sum.inl (r57 10 0 6))))) else f_X10_restore_9 u a1))
def f_X11_thrown (w : k_M) : Option Int32 :=
  some (w 0 0)
def f_X11_empties_2_b (K2 : k_M → Nat → Nat → Int32 → Option k_M) (w : k_M) (q0 : Nat) (N0 : Nat) (a1 : Int32) : Option k_M :=
  (if 268 ≤ a1 then k_ck (0 ≤ (7 : Int32) ∧ (7 : Int32) < nI N0) (k_lt (k_up w q0 7 20) fun w24 => some w24) else k_ck (0 ≤ a1 ∧ a1 < nI N0) (k_lt (k_up w q0 a1.toNatClampNeg 0) fun w12 => k_lt (a1 + 1) fun x13 => K2 w12 q0 N0 x13))
def f_X11_empties_2 : Nat → k_M → Nat → Nat → Int32 → Option k_M
  | 0 => fun _ _ _ _ => none
  | n + 1 => fun w q0 N0 a1 => f_X11_empties_2_b (f_X11_empties_2 n) w q0 N0 a1
def f_X11_empties (w : k_M) (q0 : Nat) (N0 : Nat) : Option k_M :=
  f_X11_empties_2 k_N w q0 N0 0
def f_X11_within (a0 : Int32) (a1 : Int32) (a2 : Int32) : Option Int32 :=
  (if a0 < a1 then some 0 else (if a2 < a0 then some 0 else some 1))
def f_X11_has (a0 : Int32) (a1 : Int32) : Option Int32 :=
  (if ((a0 >>> (a1 &&& 31)) &&& 1) = 1 then some 1 else some 0)
def f_X11_bits_4_b (K4 : Int32 → Int32 → Int32 → Option Int32) (a0 : Int32) (a1 : Int32) (a2 : Int32) : Option Int32 :=
  (if 12 ≤ a2 then some a1 else k_lt ((a1 + ((a0 >>> (a2 &&& 31)) &&& 1))) fun x17 => k_lt (a2 + 1) fun x18 => K4 a0 x17 x18)
def f_X11_bits_4 : Nat → Int32 → Int32 → Int32 → Option Int32
  | 0 => fun _ _ _ => none
  | n + 1 => fun a0 a1 a2 => f_X11_bits_4_b (f_X11_bits_4 n) a0 a1 a2
def f_X11_bits (a0 : Int32) : Option Int32 :=
  f_X11_bits_4 k_N a0 0 0
def f_X11_size0 (a0 : Int32) : Option Int32 :=
  (if 0 ≤ a0 then some a0 else some (-a0))
def f_X11_throwsIf_16 (w : k_M) (a1 : Int32) (a2 : Int32) : Option (k_M × Int32) :=
  (if (w 0 0) ≤ 0 then some (w, 0) else some (w, 1))
def f_X11_throwsIf (w : k_M) (a1 : Int32) (a2 : Int32) : Option (k_M × Int32) :=
  (if (w 0 0) = 0 then (if a1 = 0 then f_X11_throwsIf_16 w a1 a2 else k_lt (k_up w 0 0 a2) fun w13 => f_X11_throwsIf_16 w13 a1 a2) else f_X11_throwsIf_16 w a1 a2)
def f_X11_copies_3_b (K3 : k_M → Nat → Nat → Nat → Nat → Int32 → Int32 → Int32 → Option k_M) (w : k_M) (q0 : Nat) (N0 : Nat) (q2 : Nat) (N2 : Nat) (a1 : Int32) (a3 : Int32) (a4 : Int32) : Option k_M :=
  (if 268 ≤ a4 then some w else k_ck (0 ≤ (a1 + a4) ∧ (a1 + a4) < nI N0) (k_ck (0 ≤ (a3 + a4) ∧ (a3 + a4) < nI N2) (k_lt (k_up w q2 ((a3 + a4).toNatClampNeg) (w q0 ((a1 + a4).toNatClampNeg))) fun w22 => k_lt (a4 + 1) fun x23 => K3 w22 q0 N0 q2 N2 a1 a3 x23)))
def f_X11_copies_3 : Nat → k_M → Nat → Nat → Nat → Nat → Int32 → Int32 → Int32 → Option k_M
  | 0 => fun _ _ _ _ _ _ _ _ => none
  | n + 1 => fun w q0 N0 q2 N2 a1 a3 a4 => f_X11_copies_3_b (f_X11_copies_3 n) w q0 N0 q2 N2 a1 a3 a4
def f_X11_copies (w : k_M) (q0 : Nat) (N0 : Nat) (a1 : Int32) (q2 : Nat) (N2 : Nat) (a3 : Int32) : Option k_M :=
  f_X11_copies_3 k_N w q0 N0 q2 N2 a1 a3 0
def f_X11_chutes (w : k_M) : Option Int32 :=
  some ((w 1 8) + (w 1 9))
def f_X11_placeOf (w : k_M) (a1 : Int32) : Option Int32 :=
  (if (w 1 8) ≤ a1 then some 8 else some a1)
def f_X11_numberOf (w : k_M) (a1 : Int32) : Option Int32 :=
  (if a1 = 8 then some (w 1 8) else some a1)
def f_X11_noChute_20 (w : k_M) (a1 : Int32) (as0 : Int32) : Option (k_M × Int32) :=
  k_bd (f_X11_throwsIf w as0 1) fun r21 => k_ck (r21.2 = 0 ∨ r21.2 = 1) (some (r21.1, r21.2))
def f_X11_noChute (w : k_M) (a1 : Int32) : Option (k_M × Int32) :=
  k_bd (f_X11_chutes w) fun r4 => k_bd (f_X11_within a1 0 (r4 - 1)) fun r9 => (if r9 = 0 then f_X11_noChute_20 w a1 1 else f_X11_noChute_20 w a1 0)
def f_X11_noLayer_23 (w : k_M) (a1 : Int32) (as0 : Int32) : Option (k_M × Int32) :=
  k_bd (f_X11_throwsIf w as0 1) fun r24 => k_ck (r24.2 = 0 ∨ r24.2 = 1) (some (r24.1, r24.2))
def f_X11_noLayer (w : k_M) (a1 : Int32) : Option (k_M × Int32) :=
  k_bd (f_X11_within a1 0 ((w 1 8) - 1)) fun r12 => (if r12 = 0 then f_X11_noLayer_23 w a1 1 else f_X11_noLayer_23 w a1 0)
def f_X11_isThere (w : k_M) (a1 : Int32) : Option Int32 :=
  (if a1 = 8 then (if (w 1 9) = 1 then some 1 else some 0) else (if (w 1 8) ≤ a1 then some 0 else some 1))
def f_X11_inState_37 (K4 : k_M → Int32 → Int32 → Int32 → Option Int32) (w : k_M) (a1 : Int32) (a3 : Int32) (as0 : Int32) (as1 : Int32) : Option Int32 :=
  k_lt ((as1 + as0)) fun x38 => k_lt (a3 + 1) fun x39 => K4 w a1 x38 x39
def f_X11_inState_36 (K4 : k_M → Int32 → Int32 → Int32 → Option Int32) (w : k_M) (a1 : Int32) (a3 : Int32) (as0 : Int32) : Option Int32 :=
  f_X11_inState_37 K4 w a1 a3 0 as0
def f_X11_inState_4_b (K4 : k_M → Int32 → Int32 → Int32 → Option Int32) (w : k_M) (a1 : Int32) (a2 : Int32) (a3 : Int32) : Option Int32 :=
  (if 9 ≤ a3 then some a2 else k_bd (f_X11_isThere w a3) fun r13 => (if r13 = 0 then f_X11_inState_36 K4 w a1 a3 a2 else k_ck (0 ≤ (65 + a3) ∧ (65 + a3) < 268) ((if (w 1 ((65 + a3).toNatClampNeg)) = a1 then f_X11_inState_37 K4 w a1 a3 1 a2 else f_X11_inState_36 K4 w a1 a3 a2))))
def f_X11_inState_4 : Nat → k_M → Int32 → Int32 → Int32 → Option Int32
  | 0 => fun _ _ _ _ => none
  | n + 1 => fun w a1 a2 a3 => f_X11_inState_4_b (f_X11_inState_4 n) w a1 a2 a3
def f_X11_inState (w : k_M) (a1 : Int32) : Option Int32 :=
  f_X11_inState_4 k_N w a1 0 0
def f_X11_failed_47 (K4 : k_M → Int32 → Int32 → Option Int32) (w : k_M) (a2 : Int32) (as0 : Int32) (as1 : Int32) : Option Int32 :=
  k_lt ((as1 + as0)) fun x48 => k_lt (a2 + 1) fun x49 => K4 w x48 x49
def f_X11_failed_42 (K4 : k_M → Int32 → Int32 → Option Int32) (w : k_M) (a2 : Int32) (as0 : Int32) : Option Int32 :=
  f_X11_failed_47 K4 w a2 1 as0
def f_X11_failed_4_b (K4 : k_M → Int32 → Int32 → Option Int32) (w : k_M) (a1 : Int32) (a2 : Int32) : Option Int32 :=
  (if (w 1 8) ≤ a2 then some a1 else k_ck (0 ≤ (65 + a2) ∧ (65 + a2) < 268) ((if (w 1 ((65 + a2).toNatClampNeg)) = 2 then f_X11_failed_42 K4 w a2 a1 else k_ck (0 ≤ (65 + a2) ∧ (65 + a2) < 268) ((if (w 1 ((65 + a2).toNatClampNeg)) = 3 then f_X11_failed_42 K4 w a2 a1 else f_X11_failed_47 K4 w a2 0 a1)))))
def f_X11_failed_4 : Nat → k_M → Int32 → Int32 → Option Int32
  | 0 => fun _ _ _ => none
  | n + 1 => fun w a1 a2 => f_X11_failed_4_b (f_X11_failed_4 n) w a1 a2
def f_X11_failed (w : k_M) : Option Int32 :=
  f_X11_failed_4 k_N w 0 0
def f_X11_mayOpen (w : k_M) (a1 : Int32) : Option Int32 :=
  k_ck (0 ≤ (65 + a1) ∧ (65 + a1) < 268) ((if (w 1 ((65 + a1).toNatClampNeg)) = 0 then k_ck (0 ≤ (47 + a1) ∧ (47 + a1) < 268) ((if (w 1 ((47 + a1).toNatClampNeg)) < (w 1 0) then some 0 else k_ck (0 ≤ (56 + a1) ∧ (56 + a1) < 268) ((if (w 1 ((56 + a1).toNatClampNeg)) < (w 1 1) then some 0 else some 1)))) else some 0))
def f_X11_firstThatMay_2_b (K2 : k_M → Int32 → Option Int32) (w : k_M) (a1 : Int32) : Option Int32 :=
  (if (w 1 8) ≤ a1 then some (-1) else k_bd (f_X11_mayOpen w a1) fun r15 => (if r15 = 0 then k_lt (a1 + 1) fun x23 => K2 w x23 else some a1))
def f_X11_firstThatMay_2 : Nat → k_M → Int32 → Option Int32
  | 0 => fun _ _ => none
  | n + 1 => fun w a1 => f_X11_firstThatMay_2_b (f_X11_firstThatMay_2 n) w a1
def f_X11_firstThatMay (w : k_M) : Option Int32 :=
  f_X11_firstThatMay_2 k_N w 0
def f_X11_reserveMay (w : k_M) : Option Int32 :=
  (if (w 1 9) = 1 then (if (w 1 73) = 0 then (if (w 1 55) < (w 1 0) then some 0 else k_bd (f_X11_failed w) fun r38 => (if r38 < (w 1 64) then some 0 else k_bd (f_X11_firstThatMay w) fun r52 => (if r52 = (-1) then some 1 else some 0))) else some 0) else some 0)
def f_X11_targetFor_57 (K4 : k_M → Int32 → Int32 → Int32 → Option Int32) (w : k_M) (a1 : Int32) (a2 : Int32) (a3 : Int32) : Option Int32 :=
  k_lt (a3 + 1) fun x57 => K4 w a1 a2 x57
def f_X11_targetFor_55 (K4 : k_M → Int32 → Int32 → Int32 → Option Int32) (w : k_M) (a1 : Int32) (a3 : Int32) : Option Int32 :=
  f_X11_targetFor_57 K4 w a1 a3 a3
def f_X11_targetFor_4_b (K4 : k_M → Int32 → Int32 → Int32 → Option Int32) (w : k_M) (a1 : Int32) (a2 : Int32) (a3 : Int32) : Option Int32 :=
  (if (w 1 10) ≤ a3 then (if a2 = (-1) then some (-1) else k_ck (0 ≤ ((92 + (2 * a2)) + 1) ∧ ((92 + (2 * a2)) + 1) < 268) (some (w 1 (((92 + (2 * a2)) + 1).toNatClampNeg)))) else k_ck (0 ≤ (92 + (2 * a3)) ∧ (92 + (2 * a3)) < 268) (k_lt (w 1 ((92 + (2 * a3)).toNatClampNeg)) fun x26 => (if x26 < a1 then f_X11_targetFor_57 K4 w a1 a2 a3 else (if a2 = (-1) then f_X11_targetFor_55 K4 w a1 a3 else k_ck (0 ≤ (92 + (2 * a2)) ∧ (92 + (2 * a2)) < 268) ((if (w 1 ((92 + (2 * a2)).toNatClampNeg)) ≤ x26 then f_X11_targetFor_57 K4 w a1 a2 a3 else f_X11_targetFor_55 K4 w a1 a3))))))
def f_X11_targetFor_4 : Nat → k_M → Int32 → Int32 → Int32 → Option Int32
  | 0 => fun _ _ _ _ => none
  | n + 1 => fun w a1 a2 a3 => f_X11_targetFor_4_b (f_X11_targetFor_4 n) w a1 a2 a3
def f_X11_targetFor (w : k_M) (a1 : Int32) : Option Int32 :=
  f_X11_targetFor_4 k_N w a1 (-1) 0
def f_X11_windFor_57 (K4 : k_M → Int32 → Int32 → Int32 → Option Int32) (w : k_M) (a1 : Int32) (a2 : Int32) (a3 : Int32) : Option Int32 :=
  k_lt (a3 + 1) fun x57 => K4 w a1 a2 x57
def f_X11_windFor_55 (K4 : k_M → Int32 → Int32 → Int32 → Option Int32) (w : k_M) (a1 : Int32) (a3 : Int32) : Option Int32 :=
  f_X11_windFor_57 K4 w a1 a3 a3
def f_X11_windFor_4_b (K4 : k_M → Int32 → Int32 → Int32 → Option Int32) (w : k_M) (a1 : Int32) (a2 : Int32) (a3 : Int32) : Option Int32 :=
  (if (w 1 11) ≤ a3 then (if a2 = (-1) then some 0 else k_ck (0 ≤ ((108 + (2 * a2)) + 1) ∧ ((108 + (2 * a2)) + 1) < 268) (some (w 1 (((108 + (2 * a2)) + 1).toNatClampNeg)))) else k_ck (0 ≤ (108 + (2 * a3)) ∧ (108 + (2 * a3)) < 268) (k_lt (w 1 ((108 + (2 * a3)).toNatClampNeg)) fun x26 => (if a1 < x26 then f_X11_windFor_57 K4 w a1 a2 a3 else (if a2 = (-1) then f_X11_windFor_55 K4 w a1 a3 else k_ck (0 ≤ (108 + (2 * a2)) ∧ (108 + (2 * a2)) < 268) ((if x26 ≤ (w 1 ((108 + (2 * a2)).toNatClampNeg)) then f_X11_windFor_57 K4 w a1 a2 a3 else f_X11_windFor_55 K4 w a1 a3))))))
def f_X11_windFor_4 : Nat → k_M → Int32 → Int32 → Int32 → Option Int32
  | 0 => fun _ _ _ _ => none
  | n + 1 => fun w a1 a2 a3 => f_X11_windFor_4_b (f_X11_windFor_4 n) w a1 a2 a3
def f_X11_windFor (w : k_M) (a1 : Int32) : Option Int32 :=
  f_X11_windFor_4 k_N w a1 (-1) 0
def f_X11_asksNow (w : k_M) : Option Int32 :=
  k_bd (f_X11_targetFor w (w 1 0)) fun r7 => (if r7 = (-1) then some 0 else (if (w 1 1) ≤ r7 then some 0 else some 1))
def f_X11_air (a0 : Int32) : Option Int32 :=
  some (100 - (a0 / 400))
def f_X11_tells_60 (w : k_M) (a1 : Int32) (a2 : Int32) (a3 : Int32) : Option k_M :=
  k_lt ((148 + (4 * (w 1 16)))) fun x73 => k_ck (0 ≤ x73 ∧ x73 < 268) (k_lt (k_up w 1 x73.toNatClampNeg (w 1 6)) fun w88 => k_ck (0 ≤ (x73 + 1) ∧ (x73 + 1) < 268) (k_lt (k_up w88 1 ((x73 + 1).toNatClampNeg) a1) fun w98 => k_ck (0 ≤ (x73 + 2) ∧ (x73 + 2) < 268) (k_lt (k_up w98 1 ((x73 + 2).toNatClampNeg) a2) fun w108 => k_ck (0 ≤ (x73 + 3) ∧ (x73 + 3) < 268) (k_lt (k_up w108 1 ((x73 + 3).toNatClampNeg) a3) fun w118 => k_lt (k_up w118 1 16 ((w118 1 16) + 1)) fun w129 => some w129))))
def f_X11_tells_17_b (K17 : k_M → Int32 → Int32 → Int32 → Int32 → Option k_M) (w : k_M) (a1 : Int32) (a2 : Int32) (a3 : Int32) (a4 : Int32) : Option k_M :=
  (if 268 ≤ (a4 + 4) then k_lt (k_up w 1 16 ((w 1 16) - 1)) fun w59 => f_X11_tells_60 w59 a1 a2 a3 else k_ck (0 ≤ (a4 + 4) ∧ (a4 + 4) < 268) (k_ck (0 ≤ a4 ∧ a4 < 268) (k_lt (k_up w 1 a4.toNatClampNeg (w 1 ((a4 + 4).toNatClampNeg))) fun w42 => k_lt (a4 + 1) fun x43 => K17 w42 a1 a2 a3 x43)))
def f_X11_tells_17 : Nat → k_M → Int32 → Int32 → Int32 → Int32 → Option k_M
  | 0 => fun _ _ _ _ _ => none
  | n + 1 => fun w a1 a2 a3 a4 => f_X11_tells_17_b (f_X11_tells_17 n) w a1 a2 a3 a4
def f_X11_tells (w : k_M) (a1 : Int32) (a2 : Int32) (a3 : Int32) : Option k_M :=
  (if (w 1 16) = 30 then f_X11_tells_17 k_N w a1 a2 a3 148 else f_X11_tells_60 w a1 a2 a3)
def f_X11_opens_46 (w : k_M) (a1 : Int32) (as0 : Int32) : Option k_M :=
  k_bd (f_X11_tells w as0 a1 (w 1 1)) fun r53 => some r53
def f_X11_opens_26 (w : k_M) (a1 : Int32) (as0 : Int32) (as1 : Int32) : Option k_M :=
  k_ck (0 ≤ as1 ∧ as1 < 268) (k_lt (k_up w 1 as1.toNatClampNeg as0) fun w26 => k_ck (0 ≤ (83 + a1) ∧ (83 + a1) < 268) ((if (w26 1 ((83 + a1).toNatClampNeg)) = 1 then f_X11_opens_46 w26 a1 3 else f_X11_opens_46 w26 a1 0)))
def f_X11_opens (w : k_M) (a1 : Int32) : Option k_M :=
  k_ck (0 ≤ (83 + a1) ∧ (83 + a1) < 268) ((if (w 1 ((83 + a1).toNatClampNeg)) = 1 then f_X11_opens_26 w a1 3 (65 + a1) else f_X11_opens_26 w a1 1 (65 + a1)))
def f_X11_opensReserve (w : k_M) : Option k_M :=
  k_lt (k_up w 1 73 1) fun w7 => k_bd (f_X11_failed w7) fun r18 => k_bd (f_X11_tells w7 4 (w7 1 8) r18) fun r21 => some r21
def f_X11_pull (w : k_M) (a1 : Int32) : Option Int64 :=
  k_ck (0 ≤ (20 + a1) ∧ (20 + a1) < 268) (k_bd (f_X11_air (w 1 0)) fun r16 => some ((((((w 1 ((20 + a1).toNatClampNeg)).toInt64) * r16.toInt64) * ((w 1 1).toInt64)) * ((w 1 1).toInt64)) / (10000 : Int64)))
def f_X11_loadFor (w : k_M) (a1 : Int32) (a2 : Int32) : Option Int64 :=
  k_bd (f_X11_pull w a1) fun r2 => k_bd (f_X11_size0 (w 1 5)) fun r14 => k_lt (((r2 * ((100 + (5 * r14)).toInt64)) / (100 : Int64))) fun x25 => k_ck (¬ a2.toInt64 = 0) (some (((x25 + a2.toInt64) - (1 : Int64)) / a2.toInt64))
def f_X11_strength (w : k_M) (a1 : Int32) (a2 : Int32) : Option Int64 :=
  k_ck (0 ≤ (38 + a1) ∧ (38 + a1) < 268) (some (((w 1 ((38 + a1).toNatClampNeg)) + (3 * a2)).toInt64))
def f_X11_linesLeft_117 (K12 : k_M → Int32 → Int32 → Int32 → Option Int32) (w : k_M) (a1 : Int32) (a6 : Int32) (as0 : Int32) : Option Int32 :=
  K12 w a1 a6 as0
def f_X11_linesLeft_100 (K12 : k_M → Int32 → Int32 → Int32 → Option Int32) (K37 : k_M → Int32 → Int32 → Int64 → Int32 → Int32 → Option Int32) (w : k_M) (a1 : Int32) (a2 : Int32) (a4 : Int64) (a6 : Int32) (a7 : Int32) : Option Int32 :=
  k_lt (a7 + 1) fun x100 => K37 w a1 a2 a4 a6 x100
def f_X11_linesLeft_37_b (K12 : k_M → Int32 → Int32 → Int32 → Option Int32) (K37 : k_M → Int32 → Int32 → Int64 → Int32 → Int32 → Option Int32) (w : k_M) (a1 : Int32) (a2 : Int32) (a4 : Int64) (a6 : Int32) (a7 : Int32) : Option Int32 :=
  k_ck (0 ≤ (29 + a1) ∧ (29 + a1) < 268) ((if (w 1 ((29 + a1).toNatClampNeg)) ≤ a7 then (if a6 = a2 then f_X11_linesLeft_117 K12 w a1 a6 0 else f_X11_linesLeft_117 K12 w a1 a6 1) else k_bd (f_X11_has a2 a7) fun r54 => (if r54 = 0 then f_X11_linesLeft_100 K12 K37 w a1 a2 a4 a6 a7 else k_bd (f_X11_strength w a1 a7) fun r64 => (if 0 ≤ (lg_cmp ((r64 * ((1000 - (w 1 4)).toInt64)) / (1000 : Int64)) a4) then f_X11_linesLeft_100 K12 K37 w a1 a2 a4 a6 a7 else k_lt ((a6 &&& ((1 <<< (a7 &&& 31)) ^^^ (-1)))) fun x98 => f_X11_linesLeft_100 K12 K37 w a1 a2 a4 x98 a7))))
def f_X11_linesLeft_37 (K12 : k_M → Int32 → Int32 → Int32 → Option Int32) : Nat → k_M → Int32 → Int32 → Int64 → Int32 → Int32 → Option Int32
  | 0 => fun _ _ _ _ _ _ => none
  | n + 1 => fun w a1 a2 a4 a6 a7 => f_X11_linesLeft_37_b K12 (f_X11_linesLeft_37 K12 n) w a1 a2 a4 a6 a7
def f_X11_linesLeft_12_b (K12 : k_M → Int32 → Int32 → Int32 → Option Int32) (w : k_M) (a1 : Int32) (a2 : Int32) (a3 : Int32) : Option Int32 :=
  (if a3 = 0 then some a2 else (if a2 = 0 then some a2 else k_bd (f_X11_bits a2) fun r23 => k_bd (f_X11_loadFor w a1 r23) fun r26 => f_X11_linesLeft_37 K12 k_N w a1 a2 r26 a2 0))
def f_X11_linesLeft_12 : Nat → k_M → Int32 → Int32 → Int32 → Option Int32
  | 0 => fun _ _ _ _ => none
  | n + 1 => fun w a1 a2 a3 => f_X11_linesLeft_12_b (f_X11_linesLeft_12 n) w a1 a2 a3
def f_X11_linesLeft (w : k_M) (a1 : Int32) : Option Int32 :=
  k_ck (0 ≤ (74 + a1) ∧ (74 + a1) < 268) (k_lt (w 1 ((74 + a1).toNatClampNeg)) fun x9 => f_X11_linesLeft_12 k_N w a1 x9 1)
def f_X11_tears_49 (w : k_M) (a1 : Int32) (a2 : Int32) : Option k_M :=
  (if a2 = 0 then k_ck (0 ≤ (65 + a1) ∧ (65 + a1) < 268) (k_lt (k_up w 1 ((65 + a1).toNatClampNeg) 2) fun w62 => k_bd (f_X11_numberOf w62 a1) fun r67 => k_ck (0 ≤ (20 + a1) ∧ (20 + a1) < 268) (k_bd (f_X11_tells w62 2 r67 (w62 1 ((20 + a1).toNatClampNeg))) fun r79 => some r79)) else some w)
def f_X11_tears (w : k_M) (a1 : Int32) : Option k_M :=
  k_bd (f_X11_linesLeft w a1) fun r2 => k_ck (0 ≤ (74 + a1) ∧ (74 + a1) < 268) (k_bd (f_X11_bits (w 1 ((74 + a1).toNatClampNeg))) fun r15 => k_bd (f_X11_bits r2) fun r19 => k_lt ((r15 - r19)) fun x23 => k_ck (0 ≤ (74 + a1) ∧ (74 + a1) < 268) (k_lt (k_up w 1 ((74 + a1).toNatClampNeg) r2) fun w33 => (if x23 ≤ 0 then f_X11_tears_49 w33 a1 r2 else k_bd (f_X11_numberOf w33 a1) fun r42 => k_bd (f_X11_tells w33 1 r42 x23) fun r46 => f_X11_tears_49 r46 a1 r2)))
def f_X11_firstSpot_2_b (K2 : k_M → Int32 → Int32 → Option Int32) (w : k_M) (a1 : Int32) (a2 : Int32) : Option Int32 :=
  (if (w 1 12) ≤ a2 then some (-1) else k_ck (0 ≤ (124 + (3 * a2)) ∧ (124 + (3 * a2)) < 268) (k_ck (0 ≤ ((124 + (3 * a2)) + 1) ∧ ((124 + (3 * a2)) + 1) < 268) (k_bd (f_X11_within a1 (w 1 ((124 + (3 * a2)).toNatClampNeg)) (w 1 (((124 + (3 * a2)) + 1).toNatClampNeg))) fun r38 => (if r38 = 0 then k_lt (a2 + 1) fun x46 => K2 w a1 x46 else some a2))))
def f_X11_firstSpot_2 : Nat → k_M → Int32 → Int32 → Option Int32
  | 0 => fun _ _ _ => none
  | n + 1 => fun w a1 a2 => f_X11_firstSpot_2_b (f_X11_firstSpot_2 n) w a1 a2
def f_X11_firstSpot (w : k_M) (a1 : Int32) : Option Int32 :=
  f_X11_firstSpot_2 k_N w a1 0
def f_X11_result (w : k_M) : Option Int32 :=
  (if (w 1 0) ≤ 0 then k_bd (f_X11_firstSpot w (w 1 2)) fun r18 => (if r18 = (-1) then some 3 else k_ck (0 ≤ ((124 + (3 * r18)) + 2) ∧ ((124 + (3 * r18)) + 2) < 268) ((if (w 1 (((124 + (3 * r18)) + 2).toNatClampNeg)) < (w 1 1) then some 2 else some 1))) else some 0)
def f_X11_brakes (w : k_M) : Option k_M :=
  k_bd (f_X11_firstThatMay w) fun r1 => (if r1 = (-1) then k_bd (f_X11_reserveMay w) fun r19 => (if r19 = 0 then some w else k_bd (f_X11_opensReserve w) fun r26 => some r26) else k_bd (f_X11_opens w r1) fun r12 => some r12)
def f_X11_second_339 (w : k_M) : Option k_M :=
  k_lt (k_up w 1 6 ((w 1 6) + 1)) fun w349 => some w349
def f_X11_second_279 (w : k_M) : Option k_M :=
  k_lt ((k_mini (w 1 0) (w 1 1))) fun x294 => k_lt (k_up w 1 0 ((w 1 0) - x294)) fun w306 => k_lt (k_up w306 1 13 ((w306 1 13) + x294)) fun w318 => (if (w318 1 0) = 0 then k_bd (f_X11_result w318) fun r333 => k_bd (f_X11_tells w318 6 (-1) r333) fun r336 => f_X11_second_339 r336 else f_X11_second_339 w318)
def f_X11_second_125 (K54 : k_M → Int32 → Int64 → Int32 → Int32 → Option k_M) (w : k_M) (a1 : Int32) (a2 : Int64) (a4 : Int32) (a5 : Int32) : Option k_M :=
  k_lt (a5 + 1) fun x125 => K54 w a1 a2 a4 x125
def f_X11_second_90 (K54 : k_M → Int32 → Int64 → Int32 → Int32 → Option k_M) (w : k_M) (a1 : Int32) (a2 : Int64) (a4 : Int32) (a5 : Int32) : Option k_M :=
  k_bd (f_X11_isThere w a5) fun r93 => (if r93 = 0 then f_X11_second_125 K54 w a1 a2 a4 a5 else k_ck (0 ≤ (65 + a5) ∧ (65 + a5) < 268) ((if (w 1 ((65 + a5).toNatClampNeg)) = 1 then k_bd (f_X11_pull w a5) fun r117 => k_lt ((a2 + r117)) fun x121 => f_X11_second_125 K54 w a1 x121 1 a5 else f_X11_second_125 K54 w a1 a2 a4 a5)))
def f_X11_second_54_b (K54 : k_M → Int32 → Int64 → Int32 → Int32 → Option k_M) (w : k_M) (a1 : Int32) (a2 : Int64) (a4 : Int32) (a5 : Int32) : Option k_M :=
  (if 9 ≤ a5 then k_ck (¬ ((w 1 3).toInt64) = 0) (k_lt (((((w 1 1) + 10).toInt64) - (a2 / ((w 1 3).toInt64)))) fun x151 => k_lt (k_up w 1 1 ((k_maxl (1 : Int64) (k_maxl x151 (((w 1 1) / 2).toInt64))).toInt32)) fun w177 => k_lt ((((((w177 1 1).toInt64) * ((w177 1 1).toInt64)) * a1.toInt64) / (100000 : Int64)).toInt32) fun x201 => k_lt (k_up w177 1 14 ((w177 1 14) + x201)) fun w214 => k_lt (k_up w214 1 4 (k_mini 999 (k_maxi 0 (((w214 1 4) + x201) - (w214 1 7))))) fun w247 => (if a4 = 0 then f_X11_second_279 w247 else k_bd (f_X11_windFor w247 (w247 1 0)) fun r267 => k_lt (k_up w247 1 2 ((w247 1 2) + (r267 + (w247 1 5)))) fun w278 => f_X11_second_279 w278)) else k_bd (f_X11_isThere w a5) fun r64 => (if r64 = 0 then f_X11_second_90 K54 w a1 a2 a4 a5 else k_ck (0 ≤ (65 + a5) ∧ (65 + a5) < 268) ((if (w 1 ((65 + a5).toNatClampNeg)) = 1 then k_bd (f_X11_tears w a5) fun r87 => f_X11_second_90 K54 r87 a1 a2 a4 a5 else f_X11_second_90 K54 w a1 a2 a4 a5))))
def f_X11_second_54 : Nat → k_M → Int32 → Int64 → Int32 → Int32 → Option k_M
  | 0 => fun _ _ _ _ _ => none
  | n + 1 => fun w a1 a2 a4 a5 => f_X11_second_54_b (f_X11_second_54 n) w a1 a2 a4 a5
def f_X11_second_21 (w : k_M) (a1 : Int32) : Option k_M :=
  k_lt ((((((2 : Int64) * a1.toInt64) * ((w 1 1).toInt64)) * ((w 1 1).toInt64)) / (10000 : Int64))) fun x47 => f_X11_second_54 k_N w a1 x47 0 0
def f_X11_second (w : k_M) : Option k_M :=
  k_bd (f_X11_air (w 1 0)) fun r6 => k_bd (f_X11_asksNow w) fun r11 => (if r11 = 0 then f_X11_second_21 w r6 else k_bd (f_X11_brakes w) fun r18 => f_X11_second_21 r18 r6)
def f_X11_seconds_2_b (K2 : k_M → Int32 → Int32 → Int32 → Option (k_M × Int32)) (w : k_M) (a1 : Int32) (a2 : Int32) (a3 : Int32) : Option (k_M × Int32) :=
  (if a1 ≤ a3 then some (w, a3) else (if (w 1 0) ≤ a2 then some (w, a3) else k_bd (f_X11_second w) fun r18 => k_lt (a3 + 1) fun x21 => K2 r18 a1 a2 x21))
def f_X11_seconds_2 : Nat → k_M → Int32 → Int32 → Int32 → Option (k_M × Int32)
  | 0 => fun _ _ _ _ => none
  | n + 1 => fun w a1 a2 a3 => f_X11_seconds_2_b (f_X11_seconds_2 n) w a1 a2 a3
def f_X11_seconds (w : k_M) (a1 : Int32) (a2 : Int32) : Option (k_M × Int32) :=
  f_X11_seconds_2 k_N w a1 a2 0
def f_X11_noPart_20 (w : k_M) (a1 : Int32) (a2 : Int32) (as0 : Int32) : Option (k_M × Int32) :=
  k_bd (f_X11_throwsIf w as0 1) fun r21 => k_ck (r21.2 = 0 ∨ r21.2 = 1) (some (r21.1, r21.2))
def f_X11_noPart (w : k_M) (a1 : Int32) (a2 : Int32) : Option (k_M × Int32) :=
  k_lt (k_up w 0 0 0) fun w2 => k_bd (f_X11_within a1 0 a2) fun r9 => (if r9 = 0 then f_X11_noPart_20 w2 a1 a2 1 else f_X11_noPart_20 w2 a1 a2 0)
def f_X11_capsule (w : k_M) (a1 : Int32) : Option (k_M × Int32) :=
  k_bd (f_X11_noPart w a1 8) fun r4 => (if r4.2 = 0 then (if a1 = 7 then k_bd (f_X11_air (r4.1 1 0)) fun r24 => some (r4.1, r24) else (if a1 = 8 then k_bd (f_X11_result r4.1) fun r37 => some (r4.1, r37) else k_ck (0 ≤ a1 ∧ a1 < 268) (some (r4.1, r4.1 1 a1.toNatClampNeg)))) else some (r4.1, 0))
def f_X11_allLines_32 (K4 : k_M → Int32 → Int32 → Option Int32) (w : k_M) (a2 : Int32) (as0 : Int32) (as1 : Int32) : Option Int32 :=
  k_lt ((as1 + as0)) fun x33 => k_lt (a2 + 1) fun x34 => K4 w x33 x34
def f_X11_allLines_4_b (K4 : k_M → Int32 → Int32 → Option Int32) (w : k_M) (a1 : Int32) (a2 : Int32) : Option Int32 :=
  (if 9 ≤ a2 then some a1 else k_bd (f_X11_isThere w a2) fun r13 => (if r13 = 0 then f_X11_allLines_32 K4 w a2 0 a1 else k_ck (0 ≤ (29 + a2) ∧ (29 + a2) < 268) (f_X11_allLines_32 K4 w a2 (w 1 ((29 + a2).toNatClampNeg)) a1)))
def f_X11_allLines_4 : Nat → k_M → Int32 → Int32 → Option Int32
  | 0 => fun _ _ _ => none
  | n + 1 => fun w a1 a2 => f_X11_allLines_4_b (f_X11_allLines_4 n) w a1 a2
def f_X11_allLines (w : k_M) : Option Int32 :=
  f_X11_allLines_4 k_N w 0 0
def f_X11_linesThere_48 (K4 : k_M → Int32 → Int32 → Option Int32) (w : k_M) (a2 : Int32) (as0 : Int32) (as1 : Int32) : Option Int32 :=
  k_lt ((as1 + as0)) fun x49 => k_lt (a2 + 1) fun x50 => K4 w x49 x50
def f_X11_linesThere_47 (K4 : k_M → Int32 → Int32 → Option Int32) (w : k_M) (a2 : Int32) (as0 : Int32) : Option Int32 :=
  f_X11_linesThere_48 K4 w a2 0 as0
def f_X11_linesThere_4_b (K4 : k_M → Int32 → Int32 → Option Int32) (w : k_M) (a1 : Int32) (a2 : Int32) : Option Int32 :=
  (if 9 ≤ a2 then some a1 else k_bd (f_X11_isThere w a2) fun r13 => (if r13 = 0 then f_X11_linesThere_47 K4 w a2 a1 else k_ck (0 ≤ (65 + a2) ∧ (65 + a2) < 268) ((if (w 1 ((65 + a2).toNatClampNeg)) = 4 then f_X11_linesThere_47 K4 w a2 a1 else k_ck (0 ≤ (74 + a2) ∧ (74 + a2) < 268) (k_bd (f_X11_bits (w 1 ((74 + a2).toNatClampNeg))) fun r41 => f_X11_linesThere_48 K4 w a2 r41 a1)))))
def f_X11_linesThere_4 : Nat → k_M → Int32 → Int32 → Option Int32
  | 0 => fun _ _ _ => none
  | n + 1 => fun w a1 a2 => f_X11_linesThere_4_b (f_X11_linesThere_4 n) w a1 a2
def f_X11_linesThere (w : k_M) : Option Int32 :=
  f_X11_linesThere_4 k_N w 0 0
def f_X11_size (w : k_M) (a1 : Int32) : Option (k_M × Int32) :=
  k_bd (f_X11_noPart w a1 15) fun r4 => (if r4.2 = 0 then (if a1 = 0 then some (r4.1, r4.1 1 8) else (if a1 = 1 then some (r4.1, r4.1 1 9) else (if a1 = 2 then some (r4.1, r4.1 1 10) else (if a1 = 3 then some (r4.1, r4.1 1 11) else (if a1 = 4 then some (r4.1, r4.1 1 12) else (if a1 = 5 then some (r4.1, r4.1 1 7) else (if a1 = 6 then k_bd (f_X11_inState r4.1 1) fun r138 => some (r4.1, r138) else (if a1 = 7 then k_bd (f_X11_failed r4.1) fun r143 => some (r4.1, r143) else (if a1 = 8 then some (r4.1, r4.1 1 16) else (if a1 = 9 then some (r4.1, r4.1 0 8) else (if a1 = 10 then k_bd (f_X11_allLines r4.1) fun r161 => some (r4.1, r161) else (if a1 = 11 then k_bd (f_X11_linesThere r4.1) fun r166 => some (r4.1, r166) else (if a1 = 12 then k_bd (f_X11_allLines r4.1) fun r171 => k_bd (f_X11_linesThere r4.1) fun r175 => some (r4.1, ((r171 - r175) - (r4.1 1 15))) else (if a1 = 13 then some (r4.1, r4.1 1 15) else (if a1 = 14 then some (r4.1, r4.1 1 13) else some (r4.1, r4.1 1 14)))))))))))))))) else some (r4.1, 0))
def f_X11_chute_29 (w : k_M) (a1 : Int32) (a2 : Int32) (as0 : Int32) : Option (k_M × Int32) :=
  k_bd (f_X11_throwsIf w as0 2) fun r30 => (if r30.2 = 0 then k_bd (f_X11_placeOf r30.1 a1) fun r40 => (if a2 = 6 then k_ck (0 ≤ (65 + r40) ∧ (65 + r40) < 268) ((if (r30.1 1 ((65 + r40).toNatClampNeg)) = 4 then some (r30.1, 0) else k_ck (0 ≤ (74 + r40) ∧ (74 + r40) < 268) (k_bd (f_X11_bits (r30.1 1 ((74 + r40).toNatClampNeg))) fun r76 => some (r30.1, r76)))) else k_ck (0 ≤ ((20 + (9 * a2)) + r40) ∧ ((20 + (9 * a2)) + r40) < 268) (some (r30.1, r30.1 1 (((20 + (9 * a2)) + r40).toNatClampNeg)))) else some (r30.1, 0))
def f_X11_chute (w : k_M) (a1 : Int32) (a2 : Int32) : Option (k_M × Int32) :=
  k_lt (k_up w 0 0 0) fun w2 => k_bd (f_X11_noChute w2 a1) fun r7 => (if r7.2 = 0 then k_bd (f_X11_within a2 0 7) fun r18 => (if r18 = 0 then f_X11_chute_29 r7.1 a1 a2 1 else f_X11_chute_29 r7.1 a1 a2 0) else some (r7.1, 0))
def f_X11_line_42 (w : k_M) (a1 : Int32) (a2 : Int32) (as0 : Int32) : Option (k_M × Int32) :=
  k_bd (f_X11_throwsIf w as0 1) fun r43 => (if r43.2 = 0 then k_bd (f_X11_placeOf r43.1 a1) fun r53 => k_ck (0 ≤ (74 + r53) ∧ (74 + r53) < 268) (k_bd (f_X11_has (r43.1 1 ((74 + r53).toNatClampNeg)) a2) fun r67 => (if r67 = 0 then some (r43.1, (-1)) else k_bd (f_X11_strength r43.1 r53 a2) fun r76 => some (r43.1, r76.toInt32))) else some (r43.1, 0))
def f_X11_line (w : k_M) (a1 : Int32) (a2 : Int32) : Option (k_M × Int32) :=
  k_lt (k_up w 0 0 0) fun w2 => k_bd (f_X11_noChute w2 a1) fun r7 => (if r7.2 = 0 then k_bd (f_X11_placeOf r7.1 a1) fun r24 => k_ck (0 ≤ (29 + r24) ∧ (29 + r24) < 268) (k_bd (f_X11_within a2 0 ((r7.1 1 ((29 + r24).toNatClampNeg)) - 1)) fun r31 => (if r31 = 0 then f_X11_line_42 r7.1 a1 a2 1 else f_X11_line_42 r7.1 a1 a2 0)) else some (r7.1, 0))
def f_X11_targetAt (w : k_M) (a1 : Int32) : Option (k_M × Int32) :=
  k_bd (f_X11_noPart w a1 30000) fun r5 => (if r5.2 = 0 then k_bd (f_X11_targetFor r5.1 a1) fun r17 => some (r5.1, r17) else some (r5.1, 0))
def f_X11_windAt (w : k_M) (a1 : Int32) : Option (k_M × Int32) :=
  k_bd (f_X11_noPart w a1 30000) fun r5 => (if r5.2 = 0 then k_bd (f_X11_windFor r5.1 a1) fun r17 => some (r5.1, r17) else some (r5.1, 0))
def f_X11_noSpot_23 (w : k_M) (a1 : Int32) (as0 : Int32) : Option (k_M × Int32) :=
  k_bd (f_X11_throwsIf w as0 1) fun r24 => k_ck (r24.2 = 0 ∨ r24.2 = 1) (some (r24.1, r24.2))
def f_X11_noSpot (w : k_M) (a1 : Int32) : Option (k_M × Int32) :=
  k_bd (f_X11_within a1 0 ((w 1 12) - 1)) fun r12 => (if r12 = 0 then f_X11_noSpot_23 w a1 1 else f_X11_noSpot_23 w a1 0)
def f_X11_spot_28 (w : k_M) (a1 : Int32) (a2 : Int32) (as0 : Int32) : Option (k_M × Int32) :=
  k_bd (f_X11_throwsIf w as0 2) fun r29 => (if r29.2 = 0 then k_ck (0 ≤ ((124 + (3 * a1)) + a2) ∧ ((124 + (3 * a1)) + a2) < 268) (some (r29.1, r29.1 1 (((124 + (3 * a1)) + a2).toNatClampNeg))) else some (r29.1, 0))
def f_X11_spot (w : k_M) (a1 : Int32) (a2 : Int32) : Option (k_M × Int32) :=
  k_lt (k_up w 0 0 0) fun w2 => k_bd (f_X11_noSpot w2 a1) fun r7 => (if r7.2 = 0 then k_bd (f_X11_within a2 0 2) fun r17 => (if r17 = 0 then f_X11_spot_28 r7.1 a1 a2 1 else f_X11_spot_28 r7.1 a1 a2 0) else some (r7.1, 0))
def f_X11_event_50 (w : k_M) (a1 : Int32) (a2 : Int32) (as0 : Int32) : Option (k_M × Int32) :=
  k_bd (f_X11_throwsIf w as0 2) fun r51 => (if r51.2 = 0 then k_ck (0 ≤ ((148 + (4 * a1)) + a2) ∧ ((148 + (4 * a1)) + a2) < 268) (some (r51.1, r51.1 1 (((148 + (4 * a1)) + a2).toNatClampNeg))) else some (r51.1, 0))
def f_X11_event_28 (w : k_M) (a1 : Int32) (a2 : Int32) (as0 : Int32) : Option (k_M × Int32) :=
  k_bd (f_X11_throwsIf w as0 1) fun r29 => (if r29.2 = 0 then k_bd (f_X11_within a2 0 3) fun r39 => (if r39 = 0 then f_X11_event_50 r29.1 a1 a2 1 else f_X11_event_50 r29.1 a1 a2 0) else some (r29.1, 0))
def f_X11_event (w : k_M) (a1 : Int32) (a2 : Int32) : Option (k_M × Int32) :=
  k_lt (k_up w 0 0 0) fun w2 => k_bd (f_X11_within a1 0 ((w2 1 16) - 1)) fun r17 => (if r17 = 0 then f_X11_event_28 w2 a1 a2 1 else f_X11_event_28 w2 a1 a2 0)
def f_X11_account (w : k_M) (a1 : Int32) : Option (k_M × Int32) :=
  k_bd (f_X11_noPart w a1 9) fun r4 => (if r4.2 = 0 then k_ck (0 ≤ a1 ∧ a1 < 10) (some (r4.1, r4.1 7 a1.toNatClampNeg)) else some (r4.1, 0))
def f_X11_asks (w : k_M) : Option (k_M × Int32) :=
  k_lt (k_up w 0 0 0) fun w2 => k_bd (f_X11_asksNow w2) fun r6 => k_ck (r6 = 0 ∨ r6 = 1) (some (w2, r6))
def f_X11_whyOf (w : k_M) (a1 : Int32) : Option Int32 :=
  k_bd (f_X11_firstThatMay w) fun r1 => k_ck (0 ≤ (65 + a1) ∧ (65 + a1) < 268) ((if (w 1 ((65 + a1).toNatClampNeg)) = 1 then some 0 else (if (w 1 ((65 + a1).toNatClampNeg)) = 2 then some 1 else (if (w 1 ((65 + a1).toNatClampNeg)) = 3 then some 2 else (if (w 1 ((65 + a1).toNatClampNeg)) = 4 then some 3 else k_ck (0 ≤ (47 + a1) ∧ (47 + a1) < 268) ((if (w 1 0) ≤ (w 1 ((47 + a1).toNatClampNeg)) then k_ck (0 ≤ (56 + a1) ∧ (56 + a1) < 268) ((if (w 1 1) ≤ (w 1 ((56 + a1).toNatClampNeg)) then k_bd (f_X11_asksNow w) fun r97 => (if r97 = 0 then some 6 else (if r1 = (-1) then some 8 else (if a1 ≤ r1 then some 8 else some 7))) else some 5)) else some 4)))))))
def f_X11_why (w : k_M) (a1 : Int32) : Option (k_M × Int32) :=
  k_lt (k_up w 0 0 0) fun w2 => k_bd (f_X11_noLayer w2 a1) fun r7 => (if r7.2 = 0 then k_bd (f_X11_whyOf r7.1 a1) fun r19 => some (r7.1, r19) else some (r7.1, 0))
def f_X11_whyReserve (w : k_M) : Option (k_M × Int32) :=
  k_lt (k_up w 0 0 0) fun w2 => (if (w2 1 9) = 0 then some (w2, 1) else k_lt (w2 1 73) fun x24 => (if x24 = 0 then (if (w2 1 0) ≤ (w2 1 55) then k_bd (f_X11_failed w2) fun r61 => (if (w2 1 64) ≤ r61 then k_bd (f_X11_firstThatMay w2) fun r79 => (if r79 = (-1) then k_bd (f_X11_asksNow w2) fun r91 => (if r91 = 0 then some (w2, 6) else some (w2, 7)) else some (w2, 5)) else some (w2, 4)) else some (w2, 3)) else (if x24 = 1 then some (w2, 0) else some (w2, 2))))
def f_X11_loadOn (w : k_M) (a1 : Int32) : Option (k_M × Int32) :=
  k_lt (k_up w 0 0 0) fun w2 => k_bd (f_X11_noChute w2 a1) fun r7 => (if r7.2 = 0 then k_bd (f_X11_placeOf r7.1 a1) fun r17 => k_ck (0 ≤ (65 + r17) ∧ (65 + r17) < 268) ((if (r7.1 1 ((65 + r17).toNatClampNeg)) = 1 then k_ck (0 ≤ (74 + r17) ∧ (74 + r17) < 268) (k_bd (f_X11_bits (r7.1 1 ((74 + r17).toNatClampNeg))) fun r45 => k_bd (f_X11_loadFor r7.1 r17 r45) fun r48 => some (r7.1, r48.toInt32)) else some (r7.1, 0))) else some (r7.1, 0))
def f_X11_wouldTear (w : k_M) (a1 : Int32) : Option (k_M × Int32) :=
  k_lt (k_up w 0 0 0) fun w2 => k_bd (f_X11_noChute w2 a1) fun r7 => (if r7.2 = 0 then k_bd (f_X11_placeOf r7.1 a1) fun r17 => k_ck (0 ≤ (65 + r17) ∧ (65 + r17) < 268) ((if (r7.1 1 ((65 + r17).toNatClampNeg)) = 1 then k_ck (0 ≤ (74 + r17) ∧ (74 + r17) < 268) (k_bd (f_X11_bits (r7.1 1 ((74 + r17).toNatClampNeg))) fun r43 => k_bd (f_X11_linesLeft r7.1 r17) fun r48 => k_bd (f_X11_bits r48) fun r51 => some (r7.1, (r43 - r51))) else some (r7.1, 0))) else some (r7.1, 0))
def f_X11_back (w : k_M) (a1 : Int32) : Option (k_M × Int32) :=
  k_bd (f_X11_copies w 3 268 0 1 268 0) fun r10 => some (r10, a1)
def f_X11_looks (w : k_M) : Option k_M :=
  k_lt (k_up w 0 0 0) fun w2 => k_bd (f_X11_copies w2 1 268 0 3 268 0) fun r15 => some r15
def f_X11_lands (w : k_M) : Option (k_M × Int32) :=
  k_bd (f_X11_seconds w 3000 0) fun r5 => (if (r5.1 1 0) = 0 then some (r5.1, 1) else some (r5.1, 0))
def f_X11_landIn_28 (w : k_M) (as0 : Int32) : Option (k_M × Int32) :=
  k_bd (f_X11_back w as0) fun r28 => some (r28.1, r28.2)
def f_X11_landIn (w : k_M) : Option (k_M × Int32) :=
  k_bd (f_X11_looks w) fun r1 => k_bd (f_X11_seconds r1 3000 0) fun r9 => (if (r9.1 1 0) = 0 then f_X11_landIn_28 r9.1 r9.2 else f_X11_landIn_28 r9.1 (-1))
def f_X11_landAt_41 (w : k_M) (as0 : Int32) : Option (k_M × Int32) :=
  k_bd (f_X11_back w as0) fun r41 => some (r41.1, r41.2)
def f_X11_landAt_26 (w : k_M) (a1 : Int32) (a2 : Int32) (as0 : Int32) : Option (k_M × Int32) :=
  k_bd (f_X11_throwsIf w as0 1) fun r27 => (if a1 = 0 then f_X11_landAt_41 r27.1 0 else f_X11_landAt_41 r27.1 a2)
def f_X11_landAt (w : k_M) : Option (k_M × Int32) :=
  k_bd (f_X11_looks w) fun r1 => k_bd (f_X11_lands r1) fun r5 => k_lt (r5.1 1 2) fun x15 => (if r5.2 = 0 then f_X11_landAt_26 r5.1 r5.2 x15 1 else f_X11_landAt_26 r5.1 r5.2 x15 0)
def f_X11_landSpeed_22 (w : k_M) (as0 : Int32) : Option (k_M × Int32) :=
  k_bd (f_X11_back w as0) fun r22 => some (r22.1, r22.2)
def f_X11_landSpeed (w : k_M) : Option (k_M × Int32) :=
  k_bd (f_X11_looks w) fun r1 => k_bd (f_X11_lands r1) fun r6 => (if r6.2 = 0 then f_X11_landSpeed_22 r6.1 (-1) else f_X11_landSpeed_22 r6.1 (r6.1 1 1))
def f_X11_landResult_20 (w : k_M) (as0 : Int32) : Option (k_M × Int32) :=
  k_bd (f_X11_back w as0) fun r20 => some (r20.1, r20.2)
def f_X11_landResult (w : k_M) : Option (k_M × Int32) :=
  k_bd (f_X11_looks w) fun r1 => k_bd (f_X11_lands r1) fun r6 => (if r6.2 = 0 then f_X11_landResult_20 r6.1 (-1) else k_bd (f_X11_result r6.1) fun r13 => f_X11_landResult_20 r6.1 r13)
def f_X11_failsIn_106 (w : k_M) (a1 : Int32) (as0 : Int32) : Option (k_M × Int32) :=
  k_bd (f_X11_back w as0) fun r106 => some (r106.1, r106.2)
def f_X11_failsIn_101 (w : k_M) (a1 : Int32) (a3 : Int32) : Option (k_M × Int32) :=
  f_X11_failsIn_106 w a1 a3
def f_X11_failsIn_74 (w : k_M) (a1 : Int32) (a2 : Int32) (a3 : Int32) : Option (k_M × Int32) :=
  k_ck (0 ≤ (65 + a2) ∧ (65 + a2) < 268) ((if (w 1 ((65 + a2).toNatClampNeg)) = 2 then f_X11_failsIn_101 w a1 a3 else k_ck (0 ≤ (65 + a2) ∧ (65 + a2) < 268) ((if (w 1 ((65 + a2).toNatClampNeg)) = 3 then f_X11_failsIn_101 w a1 a3 else f_X11_failsIn_106 w a1 (-1)))))
def f_X11_failsIn_22_b (K22 : k_M → Int32 → Int32 → Int32 → Option (k_M × Int32)) (w : k_M) (a1 : Int32) (a2 : Int32) (a3 : Int32) : Option (k_M × Int32) :=
  (if 3000 ≤ a3 then f_X11_failsIn_74 w a1 a2 a3 else (if (w 1 0) ≤ 0 then f_X11_failsIn_74 w a1 a2 a3 else k_ck (0 ≤ (65 + a2) ∧ (65 + a2) < 268) ((if (w 1 ((65 + a2).toNatClampNeg)) = 2 then f_X11_failsIn_74 w a1 a2 a3 else k_ck (0 ≤ (65 + a2) ∧ (65 + a2) < 268) ((if (w 1 ((65 + a2).toNatClampNeg)) = 3 then f_X11_failsIn_74 w a1 a2 a3 else k_bd (f_X11_second w) fun r65 => k_lt (a3 + 1) fun x68 => K22 r65 a1 a2 x68))))))
def f_X11_failsIn_22 : Nat → k_M → Int32 → Int32 → Int32 → Option (k_M × Int32)
  | 0 => fun _ _ _ _ => none
  | n + 1 => fun w a1 a2 a3 => f_X11_failsIn_22_b (f_X11_failsIn_22 n) w a1 a2 a3
def f_X11_failsIn (w : k_M) (a1 : Int32) : Option (k_M × Int32) :=
  k_bd (f_X11_looks w) fun r1 => k_bd (f_X11_noChute r1 a1) fun r6 => (if r6.2 = 0 then k_bd (f_X11_placeOf r6.1 a1) fun r16 => f_X11_failsIn_22 k_N r6.1 a1 r16 0 else some (r6.1, 0))
def f_X11_reserveIn_82 (w : k_M) (as0 : Int32) : Option (k_M × Int32) :=
  k_bd (f_X11_back w as0) fun r82 => some (r82.1, r82.2)
def f_X11_reserveIn_81 (w : k_M) : Option (k_M × Int32) :=
  f_X11_reserveIn_82 w (-1)
def f_X11_reserveIn_54 (w : k_M) (a1 : Int32) : Option (k_M × Int32) :=
  (if (w 1 9) = 1 then (if (w 1 73) = 1 then f_X11_reserveIn_82 w a1 else f_X11_reserveIn_81 w) else f_X11_reserveIn_81 w)
def f_X11_reserveIn_6_b (K6 : k_M → Int32 → Option (k_M × Int32)) (w : k_M) (a1 : Int32) : Option (k_M × Int32) :=
  (if 3000 ≤ a1 then f_X11_reserveIn_54 w a1 else (if (w 1 0) ≤ 0 then f_X11_reserveIn_54 w a1 else (if (w 1 9) = 1 then (if (w 1 73) = 1 then f_X11_reserveIn_54 w a1 else k_bd (f_X11_second w) fun r45 => k_lt (a1 + 1) fun x48 => K6 r45 x48) else f_X11_reserveIn_54 w a1)))
def f_X11_reserveIn_6 : Nat → k_M → Int32 → Option (k_M × Int32)
  | 0 => fun _ _ => none
  | n + 1 => fun w a1 => f_X11_reserveIn_6_b (f_X11_reserveIn_6 n) w a1
def f_X11_reserveIn (w : k_M) : Option (k_M × Int32) :=
  k_bd (f_X11_looks w) fun r1 => f_X11_reserveIn_6 k_N r1 0
def f_X11_hottest_50 (w : k_M) (a1 : Int32) : Option (k_M × Int32) :=
  k_bd (f_X11_back w a1) fun r52 => some (r52.1, r52.2)
def f_X11_hottest_13_b (K13 : k_M → Int32 → Int32 → Option (k_M × Int32)) (w : k_M) (a1 : Int32) (a2 : Int32) : Option (k_M × Int32) :=
  (if 3000 ≤ a2 then f_X11_hottest_50 w a1 else (if (w 1 0) ≤ 0 then f_X11_hottest_50 w a1 else k_bd (f_X11_second w) fun r30 => k_lt ((k_maxi a1 (r30 1 4))) fun x43 => k_lt (a2 + 1) fun x44 => K13 r30 x43 x44))
def f_X11_hottest_13 : Nat → k_M → Int32 → Int32 → Option (k_M × Int32)
  | 0 => fun _ _ _ => none
  | n + 1 => fun w a1 a2 => f_X11_hottest_13_b (f_X11_hottest_13 n) w a1 a2
def f_X11_hottest (w : k_M) : Option (k_M × Int32) :=
  k_bd (f_X11_looks w) fun r1 => k_lt (r1 1 4) fun x10 => f_X11_hottest_13 k_N r1 x10 0
def f_X11_far (w : k_M) (a1 : Int32) : Option Int32 :=
  k_ck (0 ≤ (124 + (3 * a1)) ∧ (124 + (3 * a1)) < 268) (k_lt (w 1 ((124 + (3 * a1)).toNatClampNeg)) fun x11 => k_ck (0 ≤ ((124 + (3 * a1)) + 1) ∧ ((124 + (3 * a1)) + 1) < 268) (k_lt (w 1 (((124 + (3 * a1)) + 1).toNatClampNeg)) fun x25 => (if x11 ≤ (w 1 2) then (if (w 1 2) ≤ x25 then some 0 else some ((w 1 2) - x25)) else some (x11 - (w 1 2)))))
def f_X11_bestSlip_106 (K21 : k_M → Int32 → Int32 → Int32 → Int32 → Option (k_M × Int32)) (w : k_M) (a1 : Int32) (a2 : Int32) (a3 : Int32) (a4 : Int32) : Option (k_M × Int32) :=
  k_lt (a4 + 1) fun x106 => K21 w a1 a2 a3 x106
def f_X11_bestSlip_94 (K21 : k_M → Int32 → Int32 → Int32 → Int32 → Option (k_M × Int32)) (w : k_M) (a1 : Int32) (a4 : Int32) (a5 : Int32) : Option (k_M × Int32) :=
  k_lt ((a5 + 9)) fun x99 => k_bd (f_X11_far w a1) fun r102 => f_X11_bestSlip_106 K21 w a1 x99 r102 a4
def f_X11_bestSlip_50 (K21 : k_M → Int32 → Int32 → Int32 → Int32 → Option (k_M × Int32)) (w : k_M) (a1 : Int32) (a2 : Int32) (a3 : Int32) (a4 : Int32) (as0 : Int32) : Option (k_M × Int32) :=
  k_bd (f_X11_copies w 3 268 0 1 268 0) fun r62 => k_lt (k_up r62 1 5 as0) fun w72 => k_bd (f_X11_lands w72) fun r74 => (if r74.2 = 0 then f_X11_bestSlip_106 K21 r74.1 a1 a2 a3 a4 else (if a2 = (-1) then f_X11_bestSlip_94 K21 r74.1 a1 a4 as0 else k_bd (f_X11_far r74.1 a1) fun r87 => (if a3 ≤ r87 then f_X11_bestSlip_106 K21 r74.1 a1 a2 a3 a4 else f_X11_bestSlip_94 K21 r74.1 a1 a4 as0)))
def f_X11_bestSlip_21_b (K21 : k_M → Int32 → Int32 → Int32 → Int32 → Option (k_M × Int32)) (w : k_M) (a1 : Int32) (a2 : Int32) (a3 : Int32) (a4 : Int32) : Option (k_M × Int32) :=
  (if 19 ≤ a4 then k_bd (f_X11_back w a2) fun r114 => some (r114.1, r114.2) else (if (a4 - a4 / 2 * 2) = 1 then f_X11_bestSlip_50 K21 w a1 a2 a3 a4 ((-(a4 + 1)) / 2) else f_X11_bestSlip_50 K21 w a1 a2 a3 a4 (a4 / 2)))
def f_X11_bestSlip_21 : Nat → k_M → Int32 → Int32 → Int32 → Int32 → Option (k_M × Int32)
  | 0 => fun _ _ _ _ _ => none
  | n + 1 => fun w a1 a2 a3 a4 => f_X11_bestSlip_21_b (f_X11_bestSlip_21 n) w a1 a2 a3 a4
def f_X11_bestSlip (w : k_M) (a1 : Int32) : Option (k_M × Int32) :=
  k_bd (f_X11_looks w) fun r1 => k_bd (f_X11_noSpot r1 a1) fun r6 => (if r6.2 = 0 then f_X11_bestSlip_21 k_N r6.1 a1 (-1) 0 0 else some (r6.1, 0))
def f_X11_reachable_77 (K9 : k_M → Int32 → Int32 → Option (k_M × Int32)) (K43 : k_M → Int32 → Int32 → Int32 → Int32 → Option (k_M × Int32)) (w : k_M) (a2 : Int32) (a3 : Int32) (a4 : Int32) (as0 : Int32) (as1 : Int32) : Option (k_M × Int32) :=
  k_lt ((as1 ||| as0)) fun x78 => k_lt (a4 + 1) fun x79 => K43 w x78 a2 a3 x79
def f_X11_reachable_76 (K9 : k_M → Int32 → Int32 → Option (k_M × Int32)) (K43 : k_M → Int32 → Int32 → Int32 → Int32 → Option (k_M × Int32)) (w : k_M) (a2 : Int32) (a3 : Int32) (a4 : Int32) (as0 : Int32) : Option (k_M × Int32) :=
  f_X11_reachable_77 K9 K43 w a2 a3 a4 0 as0
def f_X11_reachable_43_b (K9 : k_M → Int32 → Int32 → Option (k_M × Int32)) (K43 : k_M → Int32 → Int32 → Int32 → Int32 → Option (k_M × Int32)) (w : k_M) (a1 : Int32) (a2 : Int32) (a3 : Int32) (a4 : Int32) : Option (k_M × Int32) :=
  (if (w 1 12) ≤ a4 then k_lt (a2 + 1) fun x85 => K9 w a1 x85 else (if a3 = 0 then f_X11_reachable_76 K9 K43 w a2 a3 a4 a1 else k_bd (f_X11_far w a4) fun r63 => (if r63 = 0 then f_X11_reachable_77 K9 K43 w a2 a3 a4 (1 <<< (a4 &&& 31)) a1 else f_X11_reachable_76 K9 K43 w a2 a3 a4 a1)))
def f_X11_reachable_43 (K9 : k_M → Int32 → Int32 → Option (k_M × Int32)) : Nat → k_M → Int32 → Int32 → Int32 → Int32 → Option (k_M × Int32)
  | 0 => fun _ _ _ _ _ => none
  | n + 1 => fun w a1 a2 a3 a4 => f_X11_reachable_43_b K9 (f_X11_reachable_43 K9 n) w a1 a2 a3 a4
def f_X11_reachable_9_b (K9 : k_M → Int32 → Int32 → Option (k_M × Int32)) (w : k_M) (a1 : Int32) (a2 : Int32) : Option (k_M × Int32) :=
  (if 10 ≤ a2 then k_bd (f_X11_back w a1) fun r93 => some (r93.1, r93.2) else k_bd (f_X11_copies w 3 268 0 1 268 0) fun r25 => k_lt (k_up r25 1 5 a2) fun w34 => k_bd (f_X11_lands w34) fun r36 => f_X11_reachable_43 K9 k_N r36.1 a1 a2 r36.2 0)
def f_X11_reachable_9 : Nat → k_M → Int32 → Int32 → Option (k_M × Int32)
  | 0 => fun _ _ _ => none
  | n + 1 => fun w a1 a2 => f_X11_reachable_9_b (f_X11_reachable_9 n) w a1 a2
def f_X11_reachable (w : k_M) : Option (k_M × Int32) :=
  k_bd (f_X11_looks w) fun r1 => f_X11_reachable_9 k_N r1 0 (-9)
def f_X11_keeps_58 (w : k_M) : Option k_M :=
  k_bd (f_X11_copies w 1 268 0 4 2144 (268 * (w 0 8))) fun r75 => k_lt (k_up r75 0 8 ((r75 0 8) + 1)) fun w85 => k_lt (k_up w85 7 0 ((w85 7 0) + 1)) fun w97 => some w97
def f_X11_keeps_21_b (K21 : k_M → Int32 → Option k_M) (w : k_M) (a1 : Int32) : Option k_M :=
  (if (w 0 8) ≤ a1 then f_X11_keeps_58 w else k_bd (f_X11_copies w 4 2144 (268 * (a1 + 1)) 4 2144 (268 * a1)) fun r49 => k_lt (a1 + 1) fun x52 => K21 r49 x52)
def f_X11_keeps_21 : Nat → k_M → Int32 → Option k_M
  | 0 => fun _ _ => none
  | n + 1 => fun w a1 => f_X11_keeps_21_b (f_X11_keeps_21 n) w a1
def f_X11_keeps (w : k_M) : Option k_M :=
  (if (w 0 8) = 8 then k_lt (k_up w 0 8 ((w 0 8) - 1)) fun w16 => f_X11_keeps_21 k_N w16 0 else f_X11_keeps_58 w)
def f_X11_refused (w : k_M) (a1 : Int32) : Option (k_M × Int32) :=
  k_ck (0 ≤ a1 ∧ a1 < 10) (k_ck (0 ≤ a1 ∧ a1 < 10) (k_lt (k_up w 7 a1.toNatClampNeg ((w 7 a1.toNatClampNeg) + 1)) fun w9 => some (w9, (-a1))))
def f_X11_ticks (w : k_M) (a1 : Int32) : Option (k_M × Int32) :=
  (if (w 1 0) = 0 then k_bd (f_X11_refused w 1) fun r11 => some (r11.1, r11.2) else k_bd (f_X11_keeps w) fun r16 => k_bd (f_X11_seconds r16 a1 0) fun r22 => some (r22.1, r22.2))
def f_X11_tick_22 (w : k_M) (a1 : Int32) (as0 : Int32) : Option (k_M × Int32) :=
  k_bd (f_X11_throwsIf w as0 1) fun r23 => (if r23.2 = 0 then k_bd (f_X11_ticks r23.1 a1) fun r35 => some (r35.1, r35.2) else some (r23.1, 0))
def f_X11_tick (w : k_M) (a1 : Int32) : Option (k_M × Int32) :=
  k_lt (k_up w 0 0 0) fun w2 => k_bd (f_X11_within a1 1 200) fun r11 => (if r11 = 0 then f_X11_tick_22 w2 a1 1 else f_X11_tick_22 w2 a1 0)
def f_X11_falls (w : k_M) (a1 : Int32) : Option (k_M × Int32) :=
  (if (w 1 0) = 0 then k_bd (f_X11_refused w 1) fun r11 => some (r11.1, r11.2) else (if a1 < (w 1 0) then k_bd (f_X11_keeps w) fun r32 => k_bd (f_X11_seconds r32 3000 a1) fun r40 => some (r40.1, r40.2) else k_bd (f_X11_refused w 2) fun r27 => some (r27.1, r27.2)))
def f_X11_fallTo (w : k_M) (a1 : Int32) : Option (k_M × Int32) :=
  k_bd (f_X11_noPart w a1 30000) fun r5 => (if r5.2 = 0 then k_bd (f_X11_falls r5.1 a1) fun r17 => some (r17.1, r17.2) else some (r5.1, 0))
def f_X11_opensIt_74 (w : k_M) (a1 : Int32) (as0 : Int32) : Option (k_M × Int32) :=
  (if as0 ≤ 0 then k_bd (f_X11_keeps w) fun r86 => k_bd (f_X11_opens r86 a1) fun r91 => k_ck (0 ≤ (65 + a1) ∧ (65 + a1) < 268) (some (r91, r91 1 ((65 + a1).toNatClampNeg))) else k_bd (f_X11_refused w as0) fun r81 => some (r81.1, r81.2))
def f_X11_opensIt (w : k_M) (a1 : Int32) : Option (k_M × Int32) :=
  (if (w 1 0) = 0 then f_X11_opensIt_74 w a1 1 else k_ck (0 ≤ (65 + a1) ∧ (65 + a1) < 268) ((if (w 1 ((65 + a1).toNatClampNeg)) = 0 then k_ck (0 ≤ (47 + a1) ∧ (47 + a1) < 268) ((if (w 1 0) ≤ (w 1 ((47 + a1).toNatClampNeg)) then k_ck (0 ≤ (56 + a1) ∧ (56 + a1) < 268) ((if (w 1 1) ≤ (w 1 ((56 + a1).toNatClampNeg)) then f_X11_opensIt_74 w a1 0 else f_X11_opensIt_74 w a1 5)) else f_X11_opensIt_74 w a1 4)) else f_X11_opensIt_74 w a1 3)))
def f_X11_open (w : k_M) (a1 : Int32) : Option (k_M × Int32) :=
  k_lt (k_up w 0 0 0) fun w2 => k_bd (f_X11_noLayer w2 a1) fun r7 => (if r7.2 = 0 then k_bd (f_X11_opensIt r7.1 a1) fun r19 => some (r19.1, r19.2) else some (r7.1, 0))
def f_X11_openReserve_95 (w : k_M) (as0 : Int32) : Option (k_M × Int32) :=
  (if as0 ≤ 0 then k_bd (f_X11_keeps w) fun r107 => k_bd (f_X11_opensReserve r107) fun r111 => k_bd (f_X11_failed r111) fun r115 => some (r111, r115) else k_bd (f_X11_refused w as0) fun r102 => some (r102.1, r102.2))
def f_X11_openReserve_38 (w : k_M) : Option (k_M × Int32) :=
  f_X11_openReserve_95 w 3
def f_X11_openReserve (w : k_M) : Option (k_M × Int32) :=
  k_lt (k_up w 0 0 0) fun w2 => (if (w2 1 0) = 0 then f_X11_openReserve_95 w2 1 else (if (w2 1 9) = 0 then f_X11_openReserve_38 w2 else (if (w2 1 73) = 0 then (if (w2 1 0) ≤ (w2 1 55) then k_bd (f_X11_failed w2) fun r63 => (if (w2 1 64) ≤ r63 then k_bd (f_X11_firstThatMay w2) fun r82 => (if r82 = (-1) then f_X11_openReserve_95 w2 0 else f_X11_openReserve_95 w2 7) else f_X11_openReserve_95 w2 6) else f_X11_openReserve_95 w2 4) else f_X11_openReserve_38 w2)))
def f_X11_cuts (w : k_M) (a1 : Int32) : Option (k_M × Int32) :=
  k_bd (f_X11_placeOf w a1) fun r2 => (if (w 1 0) = 0 then k_bd (f_X11_refused w 1) fun r17 => some (r17.1, r17.2) else k_ck (0 ≤ (65 + r2) ∧ (65 + r2) < 268) ((if (w 1 ((65 + r2).toNatClampNeg)) = 1 then k_bd (f_X11_keeps w) fun r42 => k_ck (0 ≤ (74 + r2) ∧ (74 + r2) < 268) (k_bd (f_X11_bits (r42 1 ((74 + r2).toNatClampNeg))) fun r54 => k_ck (0 ≤ (65 + r2) ∧ (65 + r2) < 268) (k_lt (k_up r42 1 ((65 + r2).toNatClampNeg) 4) fun w67 => k_lt (k_up w67 1 15 ((w67 1 15) + r54)) fun w78 => k_bd (f_X11_tells w78 5 a1 r54) fun r83 => k_bd (f_X11_inState r83 1) fun r88 => some (r83, r88))) else k_bd (f_X11_refused w 8) fun r37 => some (r37.1, r37.2))))
def f_X11_cut (w : k_M) (a1 : Int32) : Option (k_M × Int32) :=
  k_lt (k_up w 0 0 0) fun w2 => k_bd (f_X11_noChute w2 a1) fun r7 => (if r7.2 = 0 then k_bd (f_X11_cuts r7.1 a1) fun r19 => some (r19.1, r19.2) else some (r7.1, 0))
def f_X11_steers (w : k_M) (a1 : Int32) : Option (k_M × Int32) :=
  (if (w 1 0) = 0 then k_bd (f_X11_refused w 1) fun r11 => some (r11.1, r11.2) else k_bd (f_X11_inState w 1) fun r17 => (if r17 = 0 then k_bd (f_X11_refused w 8) fun r26 => some (r26.1, r26.2) else k_bd (f_X11_keeps w) fun r31 => k_lt (r31 1 5) fun x40 => k_lt (k_up r31 1 5 a1) fun w47 => some (w47, (x40 + 9))))
def f_X11_steer_22 (w : k_M) (a1 : Int32) (as0 : Int32) : Option (k_M × Int32) :=
  k_bd (f_X11_throwsIf w as0 1) fun r23 => (if r23.2 = 0 then k_bd (f_X11_steers r23.1 a1) fun r35 => some (r35.1, r35.2) else some (r23.1, 0))
def f_X11_steer (w : k_M) (a1 : Int32) : Option (k_M × Int32) :=
  k_lt (k_up w 0 0 0) fun w2 => k_bd (f_X11_within a1 (-9) 9) fun r11 => (if r11 = 0 then f_X11_steer_22 w2 a1 1 else f_X11_steer_22 w2 a1 0)
def f_X11_setTarget_76 (w : k_M) (a1 : Int32) (a2 : Int32) (a3 : Int32) : Option (k_M × Int32) :=
  (if a3 = 8 then k_bd (f_X11_refused w 9) fun r85 => some (r85.1, r85.2) else k_bd (f_X11_keeps w) fun r90 => k_ck (0 ≤ (92 + (2 * a3)) ∧ (92 + (2 * a3)) < 268) (k_lt (k_up r90 1 ((92 + (2 * a3)).toNatClampNeg) a1) fun w104 => k_ck (0 ≤ ((92 + (2 * a3)) + 1) ∧ ((92 + (2 * a3)) + 1) < 268) (k_lt (k_up w104 1 (((92 + (2 * a3)) + 1).toNatClampNeg) a2) fun w118 => k_lt (k_up w118 1 10 (k_maxi (w118 1 10) (a3 + 1))) fun w138 => some (w138, w138 1 10))))
def f_X11_setTarget_44_b (K44 : k_M → Int32 → Int32 → Int32 → Option (k_M × Int32)) (w : k_M) (a1 : Int32) (a2 : Int32) (a3 : Int32) : Option (k_M × Int32) :=
  (if (w 1 10) ≤ a3 then f_X11_setTarget_76 w a1 a2 a3 else k_ck (0 ≤ (92 + (2 * a3)) ∧ (92 + (2 * a3)) < 268) ((if (w 1 ((92 + (2 * a3)).toNatClampNeg)) = a1 then f_X11_setTarget_76 w a1 a2 a3 else k_lt (a3 + 1) fun x70 => K44 w a1 a2 x70)))
def f_X11_setTarget_44 : Nat → k_M → Int32 → Int32 → Int32 → Option (k_M × Int32)
  | 0 => fun _ _ _ _ => none
  | n + 1 => fun w a1 a2 a3 => f_X11_setTarget_44_b (f_X11_setTarget_44 n) w a1 a2 a3
def f_X11_setTarget_33 (w : k_M) (a1 : Int32) (a2 : Int32) (as0 : Int32) : Option (k_M × Int32) :=
  k_bd (f_X11_throwsIf w as0 1) fun r34 => (if r34.2 = 0 then f_X11_setTarget_44 k_N r34.1 a1 a2 0 else some (r34.1, 0))
def f_X11_setTarget_28 (w : k_M) (a1 : Int32) (a2 : Int32) : Option (k_M × Int32) :=
  f_X11_setTarget_33 w a1 a2 1
def f_X11_setTarget (w : k_M) (a1 : Int32) (a2 : Int32) : Option (k_M × Int32) :=
  k_lt (k_up w 0 0 0) fun w2 => k_bd (f_X11_within a1 1 30000) fun r11 => (if r11 = 0 then f_X11_setTarget_28 w2 a1 a2 else k_bd (f_X11_within a2 1 400) fun r22 => (if r22 = 0 then f_X11_setTarget_28 w2 a1 a2 else f_X11_setTarget_33 w2 a1 a2 0))
def f_X11_jam_100 (K60 : k_M → Int32 → Int32 → Int32 → Int32 → Option (k_M × Int32)) (w : k_M) (a1 : Int32) (a2 : Int32) (a4 : Int32) (as0 : Int32) (as1 : Int32) : Option (k_M × Int32) :=
  k_lt ((as1 + as0)) fun x101 => k_lt (a4 + 1) fun x102 => K60 w a1 a2 x101 x102
def f_X11_jam_60_b (K60 : k_M → Int32 → Int32 → Int32 → Int32 → Option (k_M × Int32)) (w : k_M) (a1 : Int32) (a2 : Int32) (a3 : Int32) (a4 : Int32) : Option (k_M × Int32) :=
  (if (w 1 8) ≤ a4 then some (w, a3) else k_ck (0 ≤ (65 + a4) ∧ (65 + a4) < 268) ((if (w 1 ((65 + a4).toNatClampNeg)) = 0 then k_ck (0 ≤ (83 + a4) ∧ (83 + a4) < 268) (f_X11_jam_100 K60 w a1 a2 a4 (w 1 ((83 + a4).toNatClampNeg)) a3) else f_X11_jam_100 K60 w a1 a2 a4 0 a3)))
def f_X11_jam_60 : Nat → k_M → Int32 → Int32 → Int32 → Int32 → Option (k_M × Int32)
  | 0 => fun _ _ _ _ _ => none
  | n + 1 => fun w a1 a2 a3 a4 => f_X11_jam_60_b (f_X11_jam_60 n) w a1 a2 a3 a4
def f_X11_jam_54 (w : k_M) (a1 : Int32) (a2 : Int32) (as0 : Int32) (as1 : Int32) : Option (k_M × Int32) :=
  k_ck (0 ≤ as1 ∧ as1 < 268) (k_lt (k_up w 1 as1.toNatClampNeg as0) fun w54 => f_X11_jam_60 k_N w54 a1 a2 0 0)
def f_X11_jam (w : k_M) (a1 : Int32) (a2 : Int32) : Option (k_M × Int32) :=
  k_lt (k_up w 0 0 0) fun w2 => k_bd (f_X11_noLayer w2 a1) fun r7 => (if r7.2 = 0 then k_ck (0 ≤ (65 + a1) ∧ (65 + a1) < 268) ((if (r7.1 1 ((65 + a1).toNatClampNeg)) = 0 then k_bd (f_X11_keeps r7.1) fun r34 => (if a2 = 0 then f_X11_jam_54 r34 a1 a2 0 (83 + a1) else f_X11_jam_54 r34 a1 a2 1 (83 + a1)) else k_bd (f_X11_refused r7.1 3) fun r29 => some (r29.1, r29.2))) else some (r7.1, 0))
def f_X11_bytesIn_25 (K5 : Int32 → Int32 → Int32 → Option Int32) (a0 : Int32) (a2 : Int32) (as0 : Int32) (as1 : Int32) : Option Int32 :=
  k_lt ((as1 + as0)) fun x26 => k_lt (a2 + (-8)) fun x27 => K5 a0 x26 x27
def f_X11_bytesIn_5_b (K5 : Int32 → Int32 → Int32 → Option Int32) (a0 : Int32) (a1 : Int32) (a2 : Int32) : Option Int32 :=
  (if a2 < 0 then some a1 else (if ((a0 >>> (a2 &&& 31)) &&& 255) = 0 then f_X11_bytesIn_25 K5 a0 a2 0 a1 else f_X11_bytesIn_25 K5 a0 a2 1 a1))
def f_X11_bytesIn_5 : Nat → Int32 → Int32 → Int32 → Option Int32
  | 0 => fun _ _ _ => none
  | n + 1 => fun a0 a1 a2 => f_X11_bytesIn_5_b (f_X11_bytesIn_5 n) a0 a1 a2
def f_X11_bytesIn (a0 : Int32) : Option Int32 :=
  f_X11_bytesIn_5 k_N a0 0 24
def f_X11_puts_40 (K3 : k_M → Int32 → Int32 → Option k_M) (w : k_M) (a1 : Int32) (a2 : Int32) : Option k_M :=
  k_lt (a2 + (-8)) fun x40 => K3 w a1 x40
def f_X11_puts_3_b (K3 : k_M → Int32 → Int32 → Option k_M) (w : k_M) (a1 : Int32) (a2 : Int32) : Option k_M :=
  (if a2 < 0 then some w else (if ((a1 >>> (a2 &&& 31)) &&& 255) = 0 then f_X11_puts_40 K3 w a1 a2 else k_ck (0 ≤ (w 0 10) ∧ (w 0 10) < 600) (k_lt (k_up w 9 ((w 0 10).toNatClampNeg) (((a1 >>> (a2 &&& 31)).toInt8.toInt32).toInt8.toInt32)) fun w29 => k_lt (k_up w29 0 10 ((w29 0 10) + 1)) fun w37 => f_X11_puts_40 K3 w37 a1 a2)))
def f_X11_puts_3 : Nat → k_M → Int32 → Int32 → Option k_M
  | 0 => fun _ _ _ => none
  | n + 1 => fun w a1 a2 => f_X11_puts_3_b (f_X11_puts_3 n) w a1 a2
def f_X11_puts (w : k_M) (a1 : Int32) : Option k_M :=
  f_X11_puts_3 k_N w a1 24
def f_X11_append_48 (w : k_M) (a1 : Int32) (a2 : Int32) (a3 : Int32) (a4 : Int32) (a5 : Int32) (as0 : Int32) : Option (k_M × Int32) :=
  k_bd (f_X11_throwsIf w as0 1) fun r49 => (if r49.2 = 0 then k_bd (f_X11_puts r49.1 a1) fun r59 => k_bd (f_X11_puts r59 a2) fun r64 => k_bd (f_X11_puts r64 a3) fun r69 => k_bd (f_X11_puts r69 a4) fun r75 => k_bd (f_X11_puts r75 a5) fun r81 => some (r81, r81 0 10) else some (r49.1, 0))
def f_X11_append (w : k_M) (a1 : Int32) (a2 : Int32) (a3 : Int32) (a4 : Int32) (a5 : Int32) : Option (k_M × Int32) :=
  k_lt (k_up w 0 0 0) fun w2 => k_bd (f_X11_bytesIn a1) fun r11 => k_bd (f_X11_bytesIn a2) fun r16 => k_bd (f_X11_bytesIn a3) fun r21 => k_bd (f_X11_bytesIn a4) fun r27 => k_bd (f_X11_bytesIn a5) fun r33 => (if ((((((w2 0 10) + r11) + r16) + r21) + r27) + r33) ≤ 600 then f_X11_append_48 w2 a1 a2 a3 a4 a5 0 else f_X11_append_48 w2 a1 a2 a3 a4 a5 1)
def f_X11_byteAt (w : k_M) (a1 : Int32) : Option Int32 :=
  (if (w 0 10) ≤ a1 then some (-1) else k_ck (0 ≤ a1 ∧ a1 < 600) (some ((w 9 a1.toNatClampNeg) &&& 255)))
def f_X11_isLetter (a0 : Int32) : Option Int32 :=
  k_bd (f_X11_within a0 97 122) fun r5 => k_ck (r5 = 0 ∨ r5 = 1) (some r5)
def f_X11_isDigit (a0 : Int32) : Option Int32 :=
  k_bd (f_X11_within a0 48 57) fun r5 => k_ck (r5 = 0 ∨ r5 = 1) (some r5)
def f_X11_advance_224 (w : k_M) (as0 : Int32) : Option k_M :=
  k_lt (k_up w 0 13 as0) fun w224 => some w224
def f_X11_advance_176 (K125 : k_M → Option k_M) (w : k_M) (as0 : Int32) : Option k_M :=
  k_lt (k_up w 0 14 as0) fun w176 => k_lt (k_up w176 0 12 ((w176 0 12) + 1)) fun w186 => K125 w186
def f_X11_advance_125_b (K125 : k_M → Option k_M) (w : k_M) : Option k_M :=
  k_bd (f_X11_byteAt w (w 0 12)) fun r130 => k_bd (f_X11_isDigit r130) fun r133 => (if r133 = 0 then some w else (if (w 0 14) ≤ 999999 then k_bd (f_X11_byteAt w (w 0 12)) fun r169 => f_X11_advance_176 K125 w (((10 * (w 0 14)) + r169) - 48) else f_X11_advance_176 K125 w (w 0 14)))
def f_X11_advance_125 : Nat → k_M → Option k_M
  | 0 => fun _ => none
  | n + 1 => fun w => f_X11_advance_125_b (f_X11_advance_125 n) w
def f_X11_advance_86_b (K86 : k_M → Option k_M) (w : k_M) : Option k_M :=
  k_bd (f_X11_byteAt w (w 0 12)) fun r91 => k_bd (f_X11_isLetter r91) fun r94 => (if r94 = 0 then some w else k_lt (k_up w 0 12 ((w 0 12) + 1)) fun w107 => K86 w107)
def f_X11_advance_86 : Nat → k_M → Option k_M
  | 0 => fun _ => none
  | n + 1 => fun w => f_X11_advance_86_b (f_X11_advance_86 n) w
def f_X11_advance_26 (K0 : k_M → Option k_M) (w : k_M) : Option k_M :=
  k_lt (k_up w 0 12 ((w 0 12) + 1)) fun w33 => K0 w33
def f_X11_advance_0_b (K0 : k_M → Option k_M) (w : k_M) : Option k_M :=
  k_bd (f_X11_byteAt w (w 0 12)) fun r5 => (if r5 = 32 then f_X11_advance_26 K0 w else k_bd (f_X11_byteAt w (w 0 12)) fun r18 => (if r18 = 10 then f_X11_advance_26 K0 w else k_lt (k_up w 0 11 (w 0 12)) fun w44 => k_lt (k_up w44 0 14 0) fun w49 => k_bd (f_X11_byteAt w49 (w49 0 12)) fun r57 => (if r57 = (-1) then k_lt (k_up w49 0 13 0) fun w68 => some w68 else k_bd (f_X11_isLetter r57) fun r75 => (if r75 = 0 then k_bd (f_X11_isDigit r57) fun r114 => (if r114 = 0 then k_lt (k_up w49 0 12 ((w49 0 12) + 1)) fun w199 => (if r57 = 59 then f_X11_advance_224 w199 4 else (if r57 = 45 then f_X11_advance_224 w199 3 else f_X11_advance_224 w199 5)) else k_lt (k_up w49 0 13 2) fun w122 => f_X11_advance_125 k_N w122) else k_lt (k_up w49 0 13 1) fun w83 => f_X11_advance_86 k_N w83))))
def f_X11_advance_0 : Nat → k_M → Option k_M
  | 0 => fun _ => none
  | n + 1 => fun w => f_X11_advance_0_b (f_X11_advance_0 n) w
def f_X11_advance (w : k_M) : Option k_M :=
  f_X11_advance_0 k_N w
def f_X11_isWord_68 (K32 : k_M → Nat → Int32 → Int32 → Option Int32) (w : k_M) (t1 : Nat) (a3 : Int32) (as0 : Int32) : Option Int32 :=
  k_lt (a3 + 1) fun x69 => K32 w t1 as0 x69
def f_X11_isWord_32_b (K32 : k_M → Nat → Int32 → Int32 → Option Int32) (w : k_M) (t1 : Nat) (a2 : Int32) (a3 : Int32) : Option Int32 :=
  (if (k_wlen t1) ≤ a3 then k_ck (a2 = 0 ∨ a2 = 1) (some a2) else (if a2 = 0 then k_ck (a2 = 0 ∨ a2 = 1) (some a2) else k_ck (0 ≤ ((w 0 11) + a3) ∧ ((w 0 11) + a3) < 600) (k_ck (0 ≤ a3 ∧ a3 < k_wlen t1) ((if (w 9 (((w 0 11) + a3).toNatClampNeg)) = (k_wchr t1 a3.toNatClampNeg) then f_X11_isWord_68 K32 w t1 a3 1 else f_X11_isWord_68 K32 w t1 a3 0)))))
def f_X11_isWord_32 : Nat → k_M → Nat → Int32 → Int32 → Option Int32
  | 0 => fun _ _ _ _ => none
  | n + 1 => fun w t1 a2 a3 => f_X11_isWord_32_b (f_X11_isWord_32 n) w t1 a2 a3
def f_X11_isWord_29 (w : k_M) (t1 : Nat) (as0 : Int32) : Option Int32 :=
  f_X11_isWord_32 k_N w t1 as0 0
def f_X11_isWord_28 (w : k_M) (t1 : Nat) : Option Int32 :=
  f_X11_isWord_29 w t1 0
def f_X11_isWord (w : k_M) (t1 : Nat) : Option Int32 :=
  (if (w 0 13) = 1 then (if ((w 0 12) - (w 0 11)) = (k_wlen t1) then f_X11_isWord_29 w t1 1 else f_X11_isWord_28 w t1) else f_X11_isWord_28 w t1)
def f_X11_fails (w : k_M) (a1 : Int32) : Option (k_M × Int32) :=
  (if (w 0 15) = 0 then k_lt (k_up w 0 15 a1) fun w9 => k_lt (k_up w9 0 16 (w9 0 11)) fun w17 => some (w17, 0) else some (w, 0))
def f_X11_goesOn (w : k_M) (a1 : Int32) (a2 : Int32) : Option (k_M × Int32) :=
  (if a2 = 0 then k_bd (f_X11_fails w a1) fun r6 => k_ck (r6.2 = 0 ∨ r6.2 = 1) (some (r6.1, r6.2)) else k_bd (f_X11_advance w) fun r11 => some (r11, 1))
def f_X11_stands (w : k_M) (a1 : Int32) (a2 : Int32) : Option (k_M × Int32) :=
  (if (w 0 13) = 2 then k_lt (k_up w 0 17 (w 0 14)) fun w19 => k_bd (f_X11_within (w19 0 14) a1 a2) fun r28 => (if r28 = 0 then k_bd (f_X11_fails w19 2) fun r36 => (if r36.2 = 0 then some (r36.1, 0) else some (r36.1, 1)) else some (w19, 1)) else k_bd (f_X11_fails w 1) fun r10 => k_ck (r10.2 = 0 ∨ r10.2 = 1) (some (r10.1, r10.2)))
def f_X11_takes (w : k_M) (a1 : Int32) (a2 : Int32) : Option (k_M × Int32) :=
  k_bd (f_X11_stands w a1 a2) fun r3 => (if r3.2 = 0 then some (r3.1, 0) else k_bd (f_X11_goesOn r3.1 1 1) fun r12 => (if r12.2 = 0 then some (r12.1, 0) else some (r12.1, 1)))
def f_X11_standsSigned_50 (w : k_M) (a1 : Int32) (as0 : Int32) : Option (k_M × Int32) :=
  k_lt (k_up w 0 17 as0) fun w50 => some (w50, 1)
def f_X11_standsSigned_22 (w : k_M) (a1 : Int32) (a2 : Int32) : Option (k_M × Int32) :=
  k_bd (f_X11_stands w 0 a1) fun r25 => (if r25.2 = 0 then some (r25.1, 0) else (if a2 = 0 then f_X11_standsSigned_50 r25.1 a1 (r25.1 0 17) else f_X11_standsSigned_50 r25.1 a1 (-(r25.1 0 17))))
def f_X11_standsSigned_13 (w : k_M) (a1 : Int32) (as0 : Int32) : Option (k_M × Int32) :=
  (if as0 = 0 then f_X11_standsSigned_22 w a1 as0 else k_bd (f_X11_advance w) fun r19 => f_X11_standsSigned_22 r19 a1 as0)
def f_X11_standsSigned (w : k_M) (a1 : Int32) : Option (k_M × Int32) :=
  (if (w 0 13) = 3 then f_X11_standsSigned_13 w a1 1 else f_X11_standsSigned_13 w a1 0)
def f_X11_takesSigned (w : k_M) (a1 : Int32) : Option (k_M × Int32) :=
  k_bd (f_X11_standsSigned w a1) fun r2 => (if r2.2 = 0 then some (r2.1, 0) else k_bd (f_X11_goesOn r2.1 1 1) fun r11 => (if r11.2 = 0 then some (r11.1, 0) else some (r11.1, 1)))
def f_X11_takesWord (w : k_M) (t1 : Nat) : Option (k_M × Int32) :=
  k_bd (f_X11_isWord w t1) fun r4 => k_bd (f_X11_goesOn w 1 r4) fun r7 => k_ck (r7.2 = 0 ∨ r7.2 = 1) (some (r7.1, r7.2))
def f_X11_stop_15 (w : k_M) (as0 : Int32) (as1 : Int32) : Option (k_M × Int32) :=
  k_bd (f_X11_goesOn w as1 as0) fun r15 => k_ck (r15.2 = 0 ∨ r15.2 = 1) (some (r15.1, r15.2))
def f_X11_stop (w : k_M) : Option (k_M × Int32) :=
  (if (w 0 13) = 4 then f_X11_stop_15 w 1 1 else f_X11_stop_15 w 0 1)
def f_X11_begins (w : k_M) : Option k_M :=
  k_lt (k_up w 0 12 0) fun w2 => k_lt (k_up w2 0 15 0) fun w7 => k_lt (k_up w7 0 16 (-1)) fun w12 => k_bd (f_X11_advance w12) fun r16 => some r16
def f_X11_errorCode (w : k_M) : Option (k_M × Int32) :=
  k_lt (k_up w 0 0 0) fun w2 => some (w2, w2 0 15)
def f_X11_errorPosition (w : k_M) : Option (k_M × Int32) :=
  k_lt (k_up w 0 0 0) fun w2 => some (w2, w2 0 16)
def f_X11_takesInto (w : k_M) (a1 : Int32) (a2 : Int32) (a3 : Int32) : Option (k_M × Int32) :=
  k_bd (f_X11_takes w a2 a3) fun r3 => (if r3.2 = 0 then some (r3.1, 0) else k_ck (0 ≤ a1 ∧ a1 < 268) (k_lt (k_up r3.1 2 a1.toNatClampNeg (r3.1 0 17)) fun w20 => some (w20, 1)))
def f_X11_readChute (w : k_M) (a1 : Int32) : Option (k_M × Int32) :=
  k_bd (f_X11_takesInto w (20 + a1) 1 99) fun r8 => (if r8.2 = 0 then some (r8.1, 0) else k_bd (f_X11_takesInto r8.1 (29 + a1) 1 12) fun r22 => (if r22.2 = 0 then some (r22.1, 0) else k_bd (f_X11_takesInto r22.1 (38 + a1) 1 9999) fun r37 => (if r37.2 = 0 then some (r37.1, 0) else k_bd (f_X11_takesWord r37.1 17) fun r47 => (if r47.2 = 0 then some (r47.1, 0) else k_bd (f_X11_takesInto r47.1 (47 + a1) 1 30000) fun r62 => (if r62.2 = 0 then some (r62.1, 0) else k_ck (0 ≤ (29 + a1) ∧ (29 + a1) < 268) (k_ck (0 ≤ (74 + a1) ∧ (74 + a1) < 268) (k_lt (k_up r62.1 2 ((74 + a1).toNatClampNeg) ((1 <<< ((r62.1 2 ((29 + a1).toNatClampNeg)) &&& 31)) - 1)) fun w91 => some (w91, 1))))))))
def f_X11_readLayer_100 (w : k_M) : Option (k_M × Int32) :=
  k_lt (k_up w 2 8 ((w 2 8) + 1)) fun w110 => some (w110, 1)
def f_X11_readLayer_85 (w : k_M) (as0 : Int32) (as1 : Int32) : Option (k_M × Int32) :=
  k_ck (0 ≤ as1 ∧ as1 < 268) (k_lt (k_up w 2 as1.toNatClampNeg as0) fun w85 => k_bd (f_X11_isWord w85 19) fun r90 => (if r90 = 0 then f_X11_readLayer_100 w85 else k_bd (f_X11_advance w85) fun r97 => f_X11_readLayer_100 r97))
def f_X11_readLayer_21 (w : k_M) (a1 : Int32) (as0 : Int32) (as1 : Int32) : Option (k_M × Int32) :=
  k_bd (f_X11_goesOn w as1 as0) fun r21 => (if r21.2 = 0 then some (r21.1, 0) else k_bd (f_X11_readChute r21.1 a1) fun r29 => (if r29.2 = 0 then some (r29.1, 0) else k_bd (f_X11_takesWord r29.1 18) fun r39 => (if r39.2 = 0 then some (r39.1, 0) else k_bd (f_X11_takesInto r39.1 (56 + a1) 1 400) fun r54 => (if r54.2 = 0 then some (r54.1, 0) else k_bd (f_X11_isWord r54.1 19) fun r74 => (if r74 = 0 then f_X11_readLayer_85 r54.1 0 (83 + a1) else f_X11_readLayer_85 r54.1 1 (83 + a1))))))
def f_X11_readLayer (w : k_M) : Option (k_M × Int32) :=
  k_lt (w 2 8) fun x7 => (if 8 ≤ x7 then f_X11_readLayer_21 w x7 0 4 else f_X11_readLayer_21 w x7 1 4)
def f_X11_readReserve_17 (w : k_M) (as0 : Int32) (as1 : Int32) : Option (k_M × Int32) :=
  k_bd (f_X11_goesOn w as1 as0) fun r17 => (if r17.2 = 0 then some (r17.1, 0) else k_bd (f_X11_readChute r17.1 8) fun r26 => (if r26.2 = 0 then some (r26.1, 0) else k_bd (f_X11_takesWord r26.1 20) fun r36 => (if r36.2 = 0 then some (r36.1, 0) else k_bd (f_X11_takesInto r36.1 64 1 8) fun r48 => (if r48.2 = 0 then some (r48.1, 0) else k_lt (k_up r48.1 2 9 1) fun w63 => some (w63, 1)))))
def f_X11_readReserve (w : k_M) : Option (k_M × Int32) :=
  (if (w 2 9) = 0 then f_X11_readReserve_17 w 1 3 else f_X11_readReserve_17 w 0 3)
def f_X11_takesHeight_40_b (K40 : k_M → Int32 → Int32 → Int32 → Int32 → Option (k_M × Int32)) (w : k_M) (a3 : Int32) (a1 : Int32) (a2 : Int32) (a4 : Int32) : Option (k_M × Int32) :=
  k_ck (0 ≤ a2 ∧ a2 < 268) ((if (w 2 a2.toNatClampNeg) ≤ a4 then k_ck (0 ≤ a2 ∧ a2 < 268) (k_ck (0 ≤ (a1 + (2 * (w 2 a2.toNatClampNeg))) ∧ (a1 + (2 * (w 2 a2.toNatClampNeg))) < 268) (k_lt (k_up w 2 ((a1 + (2 * (w 2 a2.toNatClampNeg))).toNatClampNeg) (w 0 17)) fun w99 => k_bd (f_X11_advance w99) fun r101 => some (r101, 1))) else k_ck (0 ≤ (a1 + (2 * a4)) ∧ (a1 + (2 * a4)) < 268) ((if (w 2 ((a1 + (2 * a4)).toNatClampNeg)) = (w 0 17) then k_bd (f_X11_fails w 3) fun r71 => k_ck (r71.2 = 0 ∨ r71.2 = 1) (some (r71.1, r71.2)) else k_lt (a4 + 1) fun x75 => K40 w a3 a1 a2 x75))))
def f_X11_takesHeight_40 : Nat → k_M → Int32 → Int32 → Int32 → Int32 → Option (k_M × Int32)
  | 0 => fun _ _ _ _ _ => none
  | n + 1 => fun w a3 a1 a2 a4 => f_X11_takesHeight_40_b (f_X11_takesHeight_40 n) w a3 a1 a2 a4
def f_X11_takesHeight_18 (w : k_M) (a1 : Int32) (a2 : Int32) (a3 : Int32) (as0 : Int32) (as1 : Int32) : Option (k_M × Int32) :=
  k_bd (f_X11_goesOn w as1 as0) fun r18 => (if r18.2 = 0 then some (r18.1, 0) else k_bd (f_X11_stands r18.1 a3 30000) fun r29 => (if r29.2 = 0 then some (r29.1, 0) else f_X11_takesHeight_40 k_N r29.1 a3 a1 a2 0))
def f_X11_takesHeight (w : k_M) (a1 : Int32) (a2 : Int32) (a3 : Int32) : Option (k_M × Int32) :=
  k_ck (0 ≤ a2 ∧ a2 < 268) ((if 8 ≤ (w 2 a2.toNatClampNeg) then f_X11_takesHeight_18 w a1 a2 a3 0 4 else f_X11_takesHeight_18 w a1 a2 a3 1 4))
def f_X11_readTarget (w : k_M) : Option (k_M × Int32) :=
  k_bd (f_X11_takesHeight w 92 10 1) fun r6 => (if r6.2 = 0 then some (r6.1, 0) else k_bd (f_X11_takesInto r6.1 ((92 + (2 * (r6.1 2 10))) + 1) 1 400) fun r31 => (if r31.2 = 0 then some (r31.1, 0) else k_lt (k_up r31.1 2 10 ((r31.1 2 10) + 1)) fun w49 => some (w49, 1)))
def f_X11_readWind (w : k_M) : Option (k_M × Int32) :=
  k_bd (f_X11_takesHeight w 108 11 0) fun r6 => (if r6.2 = 0 then some (r6.1, 0) else k_bd (f_X11_takesSigned r6.1 40) fun r15 => (if r15.2 = 0 then some (r15.1, 0) else k_ck (0 ≤ ((108 + (2 * (r15.1 2 11))) + 1) ∧ ((108 + (2 * (r15.1 2 11))) + 1) < 268) (k_lt (k_up r15.1 2 (((108 + (2 * (r15.1 2 11))) + 1).toNatClampNeg) (r15.1 0 17)) fun w45 => k_lt (k_up w45 2 11 ((w45 2 11) + 1)) fun w56 => some (w56, 1))))
def f_X11_readSpot_32 (w : k_M) (a1 : Int32) (as0 : Int32) (as1 : Int32) : Option (k_M × Int32) :=
  k_bd (f_X11_goesOn w as1 as0) fun r32 => (if r32.2 = 0 then some (r32.1, 0) else k_bd (f_X11_takesSigned r32.1 9999) fun r42 => (if r42.2 = 0 then some (r42.1, 0) else k_ck (0 ≤ a1 ∧ a1 < 268) (k_lt (k_up r42.1 2 a1.toNatClampNeg (r42.1 0 17)) fun w59 => k_bd (f_X11_standsSigned w59 9999) fun r64 => (if r64.2 = 0 then some (r64.1, 0) else k_ck (0 ≤ a1 ∧ a1 < 268) ((if (r64.1 2 a1.toNatClampNeg) ≤ (r64.1 0 17) then k_ck (0 ≤ (a1 + 1) ∧ (a1 + 1) < 268) (k_lt (k_up r64.1 2 ((a1 + 1).toNatClampNeg) (r64.1 0 17)) fun w102 => k_bd (f_X11_advance w102) fun r104 => k_bd (f_X11_takesInto r104 (a1 + 2) 1 99) fun r114 => (if r114.2 = 0 then some (r114.1, 0) else k_lt (k_up r114.1 2 12 ((r114.1 2 12) + 1)) fun w132 => some (w132, 1))) else k_bd (f_X11_fails r64.1 3) fun r87 => k_ck (r87.2 = 0 ∨ r87.2 = 1) (some (r87.1, r87.2))))))))
def f_X11_readSpot (w : k_M) : Option (k_M × Int32) :=
  k_lt ((124 + (3 * (w 2 12)))) fun x12 => (if 8 ≤ (w 2 12) then f_X11_readSpot_32 w x12 0 4 else f_X11_readSpot_32 w x12 1 4)
def f_X11_readStatement (w : k_M) : Option (k_M × Int32) :=
  k_bd (f_X11_isWord w 21) fun r4 => (if r4 = 0 then k_bd (f_X11_isWord w 22) fun r19 => (if r19 = 0 then k_bd (f_X11_isWord w 23) fun r34 => (if r34 = 0 then k_bd (f_X11_isWord w 24) fun r49 => (if r49 = 0 then k_bd (f_X11_isWord w 25) fun r64 => (if r64 = 0 then k_bd (f_X11_takesWord w 26) fun r79 => (if r79.2 = 0 then some (r79.1, 0) else k_bd (f_X11_takesInto r79.1 7 0 99) fun r91 => (if r91.2 = 0 then some (r91.1, 0) else some (r91.1, 1))) else k_bd (f_X11_readSpot w) fun r71 => k_ck (r71.2 = 0 ∨ r71.2 = 1) (some (r71.1, r71.2))) else k_bd (f_X11_readWind w) fun r56 => k_ck (r56.2 = 0 ∨ r56.2 = 1) (some (r56.1, r56.2))) else k_bd (f_X11_readTarget w) fun r41 => k_ck (r41.2 = 0 ∨ r41.2 = 1) (some (r41.1, r41.2))) else k_bd (f_X11_readReserve w) fun r26 => k_ck (r26.2 = 0 ∨ r26.2 = 1) (some (r26.1, r26.2))) else k_bd (f_X11_readLayer w) fun r11 => k_ck (r11.2 = 0 ∨ r11.2 = 1) (some (r11.1, r11.2)))
def f_X11_load_108 (w : k_M) (a1 : Int32) : Option (k_M × Int32) :=
  k_lt (k_up w 0 10 0) fun w110 => (if a1 = 0 then some (w110, (-1)) else k_bd (f_X11_copies w110 2 268 0 1 268 0) fun r129 => k_lt (k_up r129 0 8 0) fun w134 => k_bd (f_X11_chutes w134) fun r138 => some (w134, r138))
def f_X11_load_104 (K74 : k_M → Int32 → Option (k_M × Int32)) (w : k_M) (as0 : Int32) : Option (k_M × Int32) :=
  K74 w as0
def f_X11_load_103 (K74 : k_M → Int32 → Option (k_M × Int32)) (w : k_M) : Option (k_M × Int32) :=
  f_X11_load_104 K74 w 0
def f_X11_load_74_b (K74 : k_M → Int32 → Option (k_M × Int32)) (w : k_M) (a1 : Int32) : Option (k_M × Int32) :=
  (if a1 = 0 then f_X11_load_108 w a1 else (if (w 0 13) = 0 then f_X11_load_108 w a1 else k_bd (f_X11_readStatement w) fun r86 => (if r86.2 = 0 then f_X11_load_103 K74 r86.1 else k_bd (f_X11_stop r86.1) fun r93 => (if r93.2 = 0 then f_X11_load_103 K74 r93.1 else f_X11_load_104 K74 r93.1 1))))
def f_X11_load_74 : Nat → k_M → Int32 → Option (k_M × Int32)
  | 0 => fun _ _ => none
  | n + 1 => fun w a1 => f_X11_load_74_b (f_X11_load_74 n) w a1
def f_X11_load_73 (w : k_M) (as0 : Int32) : Option (k_M × Int32) :=
  f_X11_load_74 k_N w as0
def f_X11_load_72 (w : k_M) : Option (k_M × Int32) :=
  f_X11_load_73 w 0
def f_X11_load (w : k_M) : Option (k_M × Int32) :=
  k_lt (k_up w 0 0 0) fun w2 => k_bd (f_X11_begins w2) fun r6 => k_bd (f_X11_empties r6 2 268) fun r13 => k_bd (f_X11_takesWord r13 27) fun r20 => (if r20.2 = 0 then f_X11_load_72 r20.1 else k_bd (f_X11_takesInto r20.1 0 1 30000) fun r32 => (if r32.2 = 0 then f_X11_load_72 r32.1 else k_bd (f_X11_takesInto r32.1 1 0 400) fun r44 => (if r44.2 = 0 then f_X11_load_72 r44.1 else k_bd (f_X11_takesInto r44.1 3 1 99) fun r55 => (if r55.2 = 0 then f_X11_load_72 r55.1 else k_bd (f_X11_stop r55.1) fun r62 => (if r62.2 = 0 then f_X11_load_72 r62.1 else f_X11_load_73 r62.1 1)))))
def f_X11_commandHere (w : k_M) : Option Int32 :=
  k_bd (f_X11_isWord w 28) fun r4 => (if r4 = 0 then k_bd (f_X11_isWord w 29) fun r18 => (if r18 = 0 then k_bd (f_X11_isWord w 30) fun r32 => (if r32 = 0 then k_bd (f_X11_isWord w 22) fun r46 => (if r46 = 0 then k_bd (f_X11_isWord w 31) fun r60 => (if r60 = 0 then k_bd (f_X11_isWord w 32) fun r74 => (if r74 = 0 then some (-1) else some 5) else some 4) else some 3) else some 2) else some 1) else some 0)
def f_X11_readCommand_148 (w : k_M) (a1 : Int32) (as0 : Int32) : Option (k_M × Int32) :=
  (if as0 = 0 then some (w, 0) else k_ck (0 ≤ (2 * (w 0 19)) ∧ (2 * (w 0 19)) < 80) (k_lt (k_up w 18 ((2 * (w 0 19)).toNatClampNeg) a1) fun w166 => k_ck (0 ≤ ((2 * (w166 0 19)) + 1) ∧ ((2 * (w166 0 19)) + 1) < 80) (k_lt (k_up w166 18 (((2 * (w166 0 19)) + 1).toNatClampNeg) (w166 0 17)) fun w183 => k_lt (k_up w183 0 19 ((w183 0 19) + 1)) fun w191 => some (w191, 1))))
def f_X11_readCommand_147 (w : k_M) (a1 : Int32) : Option (k_M × Int32) :=
  f_X11_readCommand_148 w a1 0
def f_X11_readCommand_143 (w : k_M) (a1 : Int32) : Option (k_M × Int32) :=
  f_X11_readCommand_148 w a1 1
def f_X11_readCommand_32 (w : k_M) (a1 : Int32) (as0 : Int32) (as1 : Int32) : Option (k_M × Int32) :=
  k_bd (f_X11_goesOn w as1 as0) fun r32 => (if r32.2 = 0 then some (r32.1, 0) else k_lt (k_up r32.1 0 17 0) fun w42 => (if a1 = 3 then f_X11_readCommand_143 w42 a1 else (if a1 = 0 then k_bd (f_X11_takes w42 1 200) fun r59 => (if r59.2 = 0 then f_X11_readCommand_147 r59.1 a1 else f_X11_readCommand_143 r59.1 a1) else (if a1 = 1 then k_bd (f_X11_takes w42 0 30000) fun r78 => (if r78.2 = 0 then f_X11_readCommand_147 r78.1 a1 else f_X11_readCommand_143 r78.1 a1) else (if a1 = 2 then k_bd (f_X11_takes w42 0 ((w42 1 8) - 1)) fun r103 => (if r103.2 = 0 then f_X11_readCommand_147 r103.1 a1 else f_X11_readCommand_143 r103.1 a1) else (if a1 = 4 then k_bd (f_X11_chutes w42) fun r120 => k_bd (f_X11_takes w42 0 (r120 - 1)) fun r125 => (if r125.2 = 0 then f_X11_readCommand_147 r125.1 a1 else f_X11_readCommand_143 r125.1 a1) else k_bd (f_X11_takesSigned w42 9) fun r137 => (if r137.2 = 0 then f_X11_readCommand_147 r137.1 a1 else f_X11_readCommand_143 r137.1 a1)))))))
def f_X11_readCommand (w : k_M) : Option (k_M × Int32) :=
  k_bd (f_X11_commandHere w) fun r1 => (if r1 = (-1) then k_bd (f_X11_fails w 1) fun r12 => k_ck (r12.2 = 0 ∨ r12.2 = 1) (some (r12.1, r12.2)) else (if 40 ≤ (w 0 19) then f_X11_readCommand_32 w r1 0 4 else f_X11_readCommand_32 w r1 1 4))
def f_X11_does (w : k_M) (a1 : Int32) (a2 : Int32) : Option (k_M × Int32) :=
  (if a1 = 0 then k_bd (f_X11_ticks w a2) fun r38 => some (r38.1, r38.2) else (if a1 = 1 then k_bd (f_X11_falls w a2) fun r44 => some (r44.1, r44.2) else (if a1 = 2 then k_bd (f_X11_opensIt w a2) fun r50 => some (r50.1, r50.2) else (if a1 = 3 then k_bd (f_X11_openReserve w) fun r55 => some (r55.1, r55.2) else (if a1 = 4 then k_bd (f_X11_cuts w a2) fun r61 => some (r61.1, r61.2) else k_bd (f_X11_steers w a2) fun r67 => some (r67.1, r67.2))))))
def f_X11_play_63_b (K63 : k_M → Int32 → Option (k_M × Int32)) (w : k_M) (a2 : Int32) : Option (k_M × Int32) :=
  (if (w 0 19) ≤ a2 then some (w, a2) else k_ck (0 ≤ (2 * a2) ∧ (2 * a2) < 80) (k_ck (0 ≤ ((2 * a2) + 1) ∧ ((2 * a2) + 1) < 80) (k_bd (f_X11_does w (w 18 ((2 * a2).toNatClampNeg)) (w 18 (((2 * a2) + 1).toNatClampNeg))) fun r90 => (if r90.2 < 0 then some (r90.1, a2) else k_lt (a2 + 1) fun x96 => K63 r90.1 x96))))
def f_X11_play_63 : Nat → k_M → Int32 → Option (k_M × Int32)
  | 0 => fun _ _ => none
  | n + 1 => fun w a2 => f_X11_play_63_b (f_X11_play_63 n) w a2
def f_X11_play_50 (w : k_M) (a1 : Int32) : Option (k_M × Int32) :=
  k_lt (k_up w 0 10 0) fun w52 => (if a1 = 0 then some (w52, (-1)) else f_X11_play_63 k_N w52 0)
def f_X11_play_46 (K16 : k_M → Int32 → Option (k_M × Int32)) (w : k_M) (as0 : Int32) : Option (k_M × Int32) :=
  K16 w as0
def f_X11_play_45 (K16 : k_M → Int32 → Option (k_M × Int32)) (w : k_M) : Option (k_M × Int32) :=
  f_X11_play_46 K16 w 0
def f_X11_play_16_b (K16 : k_M → Int32 → Option (k_M × Int32)) (w : k_M) (a1 : Int32) : Option (k_M × Int32) :=
  (if a1 = 0 then f_X11_play_50 w a1 else (if (w 0 13) = 0 then f_X11_play_50 w a1 else k_bd (f_X11_readCommand w) fun r28 => (if r28.2 = 0 then f_X11_play_45 K16 r28.1 else k_bd (f_X11_stop r28.1) fun r35 => (if r35.2 = 0 then f_X11_play_45 K16 r35.1 else f_X11_play_46 K16 r35.1 1))))
def f_X11_play_16 : Nat → k_M → Int32 → Option (k_M × Int32)
  | 0 => fun _ _ => none
  | n + 1 => fun w a1 => f_X11_play_16_b (f_X11_play_16 n) w a1
def f_X11_play (w : k_M) : Option (k_M × Int32) :=
  k_lt (k_up w 0 0 0) fun w2 => k_bd (f_X11_begins w2) fun r6 => k_lt (k_up r6 0 19 0) fun w11 => f_X11_play_16 k_N w11 1
def f_X11_writes (w : k_M) (a1 : Int32) : Option k_M :=
  k_ck (0 ≤ (w 0 21) ∧ (w 0 21) < 60) (k_lt (k_up w 20 ((w 0 21).toNatClampNeg) a1) fun w9 => k_lt (k_up w9 0 21 ((w9 0 21) + 1)) fun w17 => some w17)
def f_X11_writesChute_102 (w : k_M) (a1 : Int32) (a3 : Int32) : Option k_M :=
  k_bd (f_X11_writes w (48 + (a3 - a3 / 10 * 10))) fun r110 => some r110
def f_X11_writesChute_77 (w : k_M) (a1 : Int32) : Option k_M :=
  k_ck (0 ≤ (74 + a1) ∧ (74 + a1) < 268) (k_bd (f_X11_bits (w 1 ((74 + a1).toNatClampNeg))) fun r86 => (if r86 ≤ 9 then f_X11_writesChute_102 w a1 r86 else k_bd (f_X11_writes w 49) fun r99 => f_X11_writesChute_102 r99 a1 r86))
def f_X11_writesChute_64 (w : k_M) (a1 : Int32) (a2 : Int32) (as0 : Int32) : Option k_M :=
  k_bd (f_X11_writes w as0) fun r64 => (if a2 = 0 then f_X11_writesChute_77 r64 a1 else (if a2 = 1 then f_X11_writesChute_77 r64 a1 else some r64))
def f_X11_writesChute_22 (w : k_M) (a1 : Int32) (a2 : Int32) : Option k_M :=
  (if a2 = 0 then f_X11_writesChute_64 w a1 a2 80 else (if a2 = 1 then f_X11_writesChute_64 w a1 a2 79 else (if a2 = 2 then f_X11_writesChute_64 w a1 a2 84 else (if a2 = 3 then f_X11_writesChute_64 w a1 a2 74 else f_X11_writesChute_64 w a1 a2 67))))
def f_X11_writesChute (w : k_M) (a1 : Int32) : Option k_M :=
  k_ck (0 ≤ (65 + a1) ∧ (65 + a1) < 268) (k_lt (w 1 ((65 + a1).toNatClampNeg)) fun x9 => (if a1 = 8 then k_bd (f_X11_writes w 82) fun r19 => f_X11_writesChute_22 r19 a1 x9 else f_X11_writesChute_22 w a1 x9))
def f_X11_write_30 (K12 : k_M → Int32 → Option (k_M × Int32)) (w : k_M) (a1 : Int32) : Option (k_M × Int32) :=
  k_bd (f_X11_placeOf w a1) fun r33 => k_bd (f_X11_writesChute w r33) fun r36 => k_lt (a1 + 1) fun x39 => K12 r36 x39
def f_X11_write_12_b (K12 : k_M → Int32 → Option (k_M × Int32)) (w : k_M) (a1 : Int32) : Option (k_M × Int32) :=
  k_bd (f_X11_chutes w) fun r14 => (if r14 ≤ a1 then some (w, w 0 21) else (if a1 ≤ 0 then f_X11_write_30 K12 w a1 else k_bd (f_X11_writes w 32) fun r27 => f_X11_write_30 K12 r27 a1))
def f_X11_write_12 : Nat → k_M → Int32 → Option (k_M × Int32)
  | 0 => fun _ _ => none
  | n + 1 => fun w a1 => f_X11_write_12_b (f_X11_write_12 n) w a1
def f_X11_write (w : k_M) : Option (k_M × Int32) :=
  k_lt (k_up w 0 0 0) fun w2 => k_lt (k_up w2 0 21 0) fun w7 => f_X11_write_12 k_N w7 0
def f_X11_output_25 (w : k_M) (a1 : Int32) (as0 : Int32) : Option (k_M × Int32) :=
  k_bd (f_X11_throwsIf w as0 1) fun r26 => (if r26.2 = 0 then k_ck (0 ≤ a1 ∧ a1 < 60) (some (r26.1, r26.1 20 a1.toNatClampNeg)) else some (r26.1, 0))
def f_X11_output (w : k_M) (a1 : Int32) : Option (k_M × Int32) :=
  k_lt (k_up w 0 0 0) fun w2 => k_bd (f_X11_within a1 0 ((w2 0 21) - 1)) fun r14 => (if r14 = 0 then f_X11_output_25 w2 a1 1 else f_X11_output_25 w2 a1 0)
def f_X11_undo_18 (w : k_M) (as0 : Int32) : Option (k_M × Int32) :=
  k_bd (f_X11_throwsIf w as0 1) fun r19 => (if r19.2 = 0 then k_lt (k_up r19.1 0 8 ((r19.1 0 8) - 1)) fun w34 => k_bd (f_X11_copies w34 4 2144 (268 * (w34 0 8)) 1 268 0) fun r54 => some (r54, r54 0 8) else some (r19.1, 0))
def f_X11_undo (w : k_M) : Option (k_M × Int32) :=
  k_lt (k_up w 0 0 0) fun w2 => (if (w2 0 8) = 0 then f_X11_undo_18 w2 1 else f_X11_undo_18 w2 0)
def f_X11_noSlot_20 (w : k_M) (a1 : Int32) (as0 : Int32) : Option (k_M × Int32) :=
  k_bd (f_X11_throwsIf w as0 1) fun r21 => k_ck (r21.2 = 0 ∨ r21.2 = 1) (some (r21.1, r21.2))
def f_X11_noSlot (w : k_M) (a1 : Int32) : Option (k_M × Int32) :=
  k_lt (k_up w 0 0 0) fun w2 => k_bd (f_X11_within a1 0 1) fun r9 => (if r9 = 0 then f_X11_noSlot_20 w2 a1 1 else f_X11_noSlot_20 w2 a1 0)
def f_X11_save (w : k_M) (a1 : Int32) : Option (k_M × Int32) :=
  k_bd (f_X11_noSlot w a1) fun r2 => (if r2.2 = 0 then k_bd (f_X11_copies r2.1 1 268 0 5 536 (268 * a1)) fun r24 => k_ck (0 ≤ a1 ∧ a1 < 2) (k_lt (k_up r24 6 a1.toNatClampNeg (1 &&& 1)) fun w33 => some (w33, w33 1 6)) else some (r2.1, 0))
def f_X11_restore_23 (w : k_M) (a1 : Int32) (as0 : Int32) : Option (k_M × Int32) :=
  k_bd (f_X11_throwsIf w as0 2) fun r24 => (if r24.2 = 0 then k_bd (f_X11_copies r24.1 5 536 (268 * a1) 1 268 0) fun r46 => k_lt (k_up r46 0 8 0) fun w51 => some (w51, w51 1 6) else some (r24.1, 0))
def f_X11_restore (w : k_M) (a1 : Int32) : Option (k_M × Int32) :=
  k_bd (f_X11_noSlot w a1) fun r2 => (if r2.2 = 0 then k_ck (0 ≤ a1 ∧ a1 < 2) ((if (r2.1 6 a1.toNatClampNeg) = 0 then f_X11_restore_23 r2.1 a1 1 else f_X11_restore_23 r2.1 a1 0)) else some (r2.1, 0))
