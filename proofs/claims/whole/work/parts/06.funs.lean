def f_X4_bytesIn_22 (K5 : Int32 → Int32 → Int32 → Option Int32) (a0 : Int32) (a1 : Int32) (a2 : Int32) : Option Int32 :=
  k_lt (a2 + (-8)) fun x22 => K5 a0 a1 x22
def f_X4_bytesIn_5_b (K5 : Int32 → Int32 → Int32 → Option Int32) (a0 : Int32) (a1 : Int32) (a2 : Int32) : Option Int32 :=
  (if a2 < 0 then some a1 else (if (((a0.toUInt32 >>> ((a2 : Int32).toUInt32 &&& Int32.toUInt32 31)).toInt32) &&& 255) = 0 then f_X4_bytesIn_22 K5 a0 a1 a2 else k_lt (a1 + 1) fun x19 => f_X4_bytesIn_22 K5 a0 x19 a2))
def f_X4_bytesIn_5 : Nat → Int32 → Int32 → Int32 → Option Int32
  | 0 => fun _ _ _ => none
  | n + 1 => fun a0 a1 a2 => f_X4_bytesIn_5_b (f_X4_bytesIn_5 n) a0 a1 a2
def f_X4_bytesIn (a0 : Int32) : Option Int32 :=
  f_X4_bytesIn_5 k_N a0 0 24
def f_X4_room (w : k_M) : Option Int32 :=
  some (600 - (w 0 2))
def f_X4_kindOf_28 (a0 : Int32) : Option Int32 :=
  (if a0 = 10 then some 5 else (if a0 = 32 then some 5 else (if a0 = 45 then some 3 else (if a0 = 59 then some 4 else some 6))))
def f_X4_kindOf_14 (a0 : Int32) : Option Int32 :=
  (if a0 < 48 then f_X4_kindOf_28 a0 else (if 57 < a0 then f_X4_kindOf_28 a0 else some 2))
def f_X4_kindOf (a0 : Int32) : Option Int32 :=
  (if a0 < 97 then f_X4_kindOf_14 a0 else (if 122 < a0 then f_X4_kindOf_14 a0 else some 1))
def f_X4_addBytesOf_62 (K3 : k_M → Int32 → Int32 → Option k_M) (w : k_M) (a1 : Int32) (a2 : Int32) : Option k_M :=
  k_lt (a2 + (-8)) fun x62 => K3 w a1 x62
def f_X4_addBytesOf_3_b (K3 : k_M → Int32 → Int32 → Option k_M) (w : k_M) (a1 : Int32) (a2 : Int32) : Option k_M :=
  (if a2 < 0 then some w else k_lt ((((a1.toUInt32 >>> ((a2 : Int32).toUInt32 &&& Int32.toUInt32 31)).toInt32) &&& 255)) fun x14 => (if x14 = 0 then f_X4_addBytesOf_62 K3 w a1 a2 else (if 600 ≤ (w 0 2) then f_X4_addBytesOf_62 K3 w a1 a2 else k_ck (0 ≤ (w 0 2) ∧ (w 0 2) < 600) (k_lt (k_up w 1 ((w 0 2).toNatClampNeg) x14) fun w38 => k_bd (f_X4_kindOf x14) fun r48 => k_ck (0 ≤ (w38 0 2) ∧ (w38 0 2) < 600) (k_lt (k_up w38 2 ((w38 0 2).toNatClampNeg) r48) fun w51 => k_lt (k_up w51 0 2 ((w51 0 2) + 1)) fun w59 => f_X4_addBytesOf_62 K3 w59 a1 a2)))))
def f_X4_addBytesOf_3 : Nat → k_M → Int32 → Int32 → Option k_M
  | 0 => fun _ _ _ => none
  | n + 1 => fun w a1 a2 => f_X4_addBytesOf_3_b (f_X4_addBytesOf_3 n) w a1 a2
def f_X4_addBytesOf (w : k_M) (a1 : Int32) : Option k_M :=
  f_X4_addBytesOf_3 k_N w a1 24
def f_X10_append (u : k_U) (a1 : Int32) (a2 : Int32) (a3 : Int32) (a4 : Int32) (a5 : Int32) : Option (k_U × (Int32 ⊕ Nat)) :=
  k_bd (f_X4_bytesIn a1) fun r1 => k_bd (f_X4_bytesIn a2) fun r5 => k_bd (f_X4_bytesIn a3) fun r10 => k_bd (f_X4_bytesIn a4) fun r16 => k_bd (f_X4_bytesIn a5) fun r22 => k_lt (((((r1 + r5) + r10) + r16) + r22)) fun x26 => k_bd (f_X4_room (u 1)) fun r34 => (if x26 ≤ r34 then k_bd (f_X4_addBytesOf (u 1) a1) fun r55 => k_lt (k_uc u 1 r55) fun u55 => k_bd (f_X4_addBytesOf (u55 1) a2) fun r63 => k_lt (k_uc u55 1 r63) fun u63 => k_bd (f_X4_addBytesOf (u63 1) a3) fun r71 => k_lt (k_uc u63 1 r71) fun u71 => k_bd (f_X4_addBytesOf (u71 1) a4) fun r80 => k_lt (k_uc u71 1 r80) fun u80 => k_bd (f_X4_addBytesOf (u80 1) a5) fun r89 => k_lt (k_uc u80 1 r89) fun u89 => some (u89, Sum.inl (u89 1 0 2)) else some (u, Sum.inr 0))
def f_X4_advance_227 (K170 : k_M → Option k_M) (w : k_M) : Option k_M :=
  k_lt (k_up w 0 7 ((w 0 7) + 1)) fun w234 => K170 w234
def f_X4_advance_170_b (K170 : k_M → Option k_M) (w : k_M) : Option k_M :=
  (if (w 0 2) ≤ (w 0 7) then some w else k_ck (0 ≤ (w 0 7) ∧ (w 0 7) < 600) ((if (w 2 ((w 0 7).toNatClampNeg)) = 2 then (if 1000000 ≤ (w 0 8) then f_X4_advance_227 K170 w else k_ck (0 ≤ (w 0 7) ∧ (w 0 7) < 600) (k_lt (k_up w 0 8 ((((w 0 8) * 10) + (w 1 ((w 0 7).toNatClampNeg))) - 48)) fun w224 => f_X4_advance_227 K170 w224)) else some w)))
def f_X4_advance_170 : Nat → k_M → Option k_M
  | 0 => fun _ => none
  | n + 1 => fun w => f_X4_advance_170_b (f_X4_advance_170 n) w
def f_X4_advance_109_b (K109 : k_M → Option k_M) (w : k_M) : Option k_M :=
  (if (w 0 2) ≤ (w 0 7) then some w else k_ck (0 ≤ (w 0 7) ∧ (w 0 7) < 600) ((if (w 2 ((w 0 7).toNatClampNeg)) = 1 then k_lt (k_up w 0 7 ((w 0 7) + 1)) fun w140 => K109 w140 else some w)))
def f_X4_advance_109 : Nat → k_M → Option k_M
  | 0 => fun _ => none
  | n + 1 => fun w => f_X4_advance_109_b (f_X4_advance_109 n) w
def f_X4_advance_53 (w : k_M) : Option k_M :=
  k_lt (k_up w 0 7 (w 0 6)) fun w58 => (if (w58 0 6) < (w58 0 2) then k_ck (0 ≤ (w58 0 6) ∧ (w58 0 6) < 600) (k_lt (k_up w58 0 5 (w58 2 ((w58 0 6).toNatClampNeg))) fun w88 => k_lt (k_up w88 0 7 ((w88 0 7) + 1)) fun w98 => (if (w98 0 5) = 1 then f_X4_advance_109 k_N w98 else (if (w98 0 5) = 2 then k_ck (0 ≤ (w98 0 6) ∧ (w98 0 6) < 600) (k_lt (k_up w98 0 8 ((w98 1 ((w98 0 6).toNatClampNeg)) - 48)) fun w167 => f_X4_advance_170 k_N w167) else some w98))) else k_lt (k_up w58 0 5 0) fun w74 => some w74)
def f_X4_advance_16_b (K16 : k_M → Option k_M) (w : k_M) : Option k_M :=
  (if (w 0 2) ≤ (w 0 6) then f_X4_advance_53 w else k_ck (0 ≤ (w 0 6) ∧ (w 0 6) < 600) ((if (w 2 ((w 0 6).toNatClampNeg)) = 5 then k_lt (k_up w 0 6 ((w 0 6) + 1)) fun w47 => K16 w47 else f_X4_advance_53 w)))
def f_X4_advance_16 : Nat → k_M → Option k_M
  | 0 => fun _ => none
  | n + 1 => fun w => f_X4_advance_16_b (f_X4_advance_16 n) w
def f_X4_advance (w : k_M) : Option k_M :=
  k_lt (k_up w 0 9 (w 0 6)) fun w5 => k_lt (k_up w5 0 6 (w5 0 7)) fun w13 => f_X4_advance_16 k_N w13
def f_X4_begin (w : k_M) : Option k_M :=
  k_lt (k_up w 0 3 0) fun w2 => k_lt (k_up w2 0 4 (-1)) fun w7 => k_lt (k_up w7 0 7 0) fun w12 => k_bd (f_X4_advance w12) fun r16 => some r16
def f_X4_isAt_28_b (K28 : k_M → Nat → Int32 → Option Int32) (w : k_M) (t1 : Nat) (a2 : Int32) : Option Int32 :=
  (if (k_wlen t1) ≤ a2 then some 1 else k_ck (0 ≤ ((w 0 6) + a2) ∧ ((w 0 6) + a2) < 600) (k_ck (0 ≤ a2 ∧ a2 < k_wlen t1) ((if (w 1 (((w 0 6) + a2).toNatClampNeg)) = (k_wchr t1 a2.toNatClampNeg) then k_lt (a2 + 1) fun x57 => K28 w t1 x57 else some 0))))
def f_X4_isAt_28 : Nat → k_M → Nat → Int32 → Option Int32
  | 0 => fun _ _ _ => none
  | n + 1 => fun w t1 a2 => f_X4_isAt_28_b (f_X4_isAt_28 n) w t1 a2
def f_X4_isAt (w : k_M) (t1 : Nat) : Option Int32 :=
  (if (w 0 5) = 1 then (if ((w 0 7) - (w 0 6)) = (k_wlen t1) then f_X4_isAt_28 k_N w t1 0 else some 0) else some 0)
def f_X4_hasFailed (w : k_M) : Option Int32 :=
  (if (w 0 3) = 0 then some 0 else some 1)
def f_X4_failAt (w : k_M) (a1 : Int32) (a2 : Int32) : Option k_M :=
  (if (w 0 3) = 0 then k_lt (k_up w 0 3 a2) fun w9 => k_lt (k_up w9 0 4 a1) fun w14 => some w14 else some w)
def f_X4_takeWord (w : k_M) (t1 : Nat) : Option k_M :=
  k_bd (f_X4_isAt w t1) fun r2 => (if r2 = 0 then k_bd (f_X4_failAt w (w 0 6) 1) fun r14 => some r14 else k_bd (f_X4_hasFailed w) fun r21 => (if r21 = 0 then k_bd (f_X4_advance w) fun r28 => some r28 else some w))
def f_X4_takeNumber_45 (w : k_M) (a1 : Int32) (a2 : Int32) : Option (k_M × Int32) :=
  k_bd (f_X4_hasFailed w) fun r46 => (if r46 = 0 then k_lt (w 0 8) fun x58 => k_bd (f_X4_advance w) fun r60 => some (r60, x58) else some (w, 0))
def f_X4_takeNumber_36 (w : k_M) (a1 : Int32) (a2 : Int32) : Option (k_M × Int32) :=
  k_bd (f_X4_failAt w (w 0 6) 2) fun r42 => f_X4_takeNumber_45 r42 a1 a2
def f_X4_takeNumber (w : k_M) (a1 : Int32) (a2 : Int32) : Option (k_M × Int32) :=
  (if (w 0 5) = 2 then (if (w 0 8) < a1 then f_X4_takeNumber_36 w a1 a2 else (if (w 0 8) ≤ a2 then f_X4_takeNumber_45 w a1 a2 else f_X4_takeNumber_36 w a1 a2)) else k_bd (f_X4_failAt w (w 0 6) 1) fun r14 => f_X4_takeNumber_45 r14 a1 a2)
def f_X4_takeSemicolon (w : k_M) : Option k_M :=
  (if (w 0 5) = 4 then k_bd (f_X4_hasFailed w) fun r21 => (if r21 = 0 then k_bd (f_X4_advance w) fun r28 => some r28 else some w) else k_bd (f_X4_failAt w (w 0 6) 1) fun r14 => some r14)
def f_X1_forget (w : k_M) : Option k_M :=
  k_lt (k_up w 13 1 0) fun w2 => k_lt (k_up w2 13 2 0) fun w7 => some w7
def f_X9_begin (w : k_M) (a1 : Int32) (a2 : Int32) (a3 : Int32) : Option k_M :=
  k_lt (k_up w 0 0 a1) fun w2 => k_lt (k_up w2 0 1 a2) fun w7 => k_lt (k_up w7 0 3 a3) fun w12 => k_lt (k_up w12 0 2 0) fun w17 => k_lt (k_up w17 0 4 0) fun w22 => k_lt (k_up w22 0 5 0) fun w27 => k_lt (k_up w27 0 6 0) fun w32 => k_lt (k_up w32 0 7 20) fun w38 => k_lt (k_up w38 0 8 0) fun w43 => k_lt (k_up w43 0 9 0) fun w48 => k_lt (k_up w48 0 10 0) fun w53 => k_lt (k_up w53 0 11 0) fun w58 => k_lt (k_up w58 3 2 0) fun w66 => k_lt (k_up w66 6 2 0) fun w74 => k_lt (k_up w74 9 3 0) fun w82 => k_bd (f_X1_forget w82) fun r89 => some r89
def f_X4_hasMore (w : k_M) : Option Int32 :=
  k_bd (f_X4_hasFailed w) fun r1 => (if r1 = 0 then (if (w 0 5) = 0 then some 0 else some 1) else some 0)
def f_X4_skipWord (w : k_M) (t1 : Nat) : Option (k_M × Int32) :=
  k_bd (f_X4_hasFailed w) fun r1 => (if r1 = 0 then k_bd (f_X4_isAt w t1) fun r9 => (if r9 = 0 then some (w, 0) else k_bd (f_X4_advance w) fun r18 => some (r18, 1)) else some (w, 0))
def f_X4_failHere (w : k_M) (a1 : Int32) : Option k_M :=
  k_bd (f_X4_failAt w (w 0 6) a1) fun r6 => some r6
def f_X4_failTaken (w : k_M) (a1 : Int32) : Option k_M :=
  k_bd (f_X4_failAt w (w 0 9) a1) fun r6 => some r6
def f_X4_takeSigned_29 (w : k_M) (a1 : Int32) (a2 : Int32) : Option (k_M × Int32) :=
  k_bd (f_X4_takeNumber w 0 a1) fun r32 => (if a2 = 0 then some (r32.1, r32.2) else some (r32.1, (-r32.2)))
def f_X4_takeSigned_20 (w : k_M) (a1 : Int32) (as0 : Int32) : Option (k_M × Int32) :=
  (if as0 = 0 then f_X4_takeSigned_29 w a1 as0 else k_bd (f_X4_advance w) fun r26 => f_X4_takeSigned_29 r26 a1 as0)
def f_X4_takeSigned_19 (w : k_M) (a1 : Int32) : Option (k_M × Int32) :=
  f_X4_takeSigned_20 w a1 0
def f_X4_takeSigned (w : k_M) (a1 : Int32) : Option (k_M × Int32) :=
  (if (w 0 5) = 3 then k_bd (f_X4_hasFailed w) fun r9 => (if r9 = 0 then f_X4_takeSigned_20 w a1 1 else f_X4_takeSigned_19 w a1) else f_X4_takeSigned_19 w a1)
def f_X8_add (w : k_M) (a1 : Int32) (a2 : Int32) (a3 : Int32) : Option k_M :=
  (if 8 ≤ (w 9 3) then some w else k_ck (0 ≤ (w 9 3) ∧ (w 9 3) < 8) (k_lt (k_up w 10 ((w 9 3).toNatClampNeg) a1) fun w18 => k_ck (0 ≤ (w18 9 3) ∧ (w18 9 3) < 8) (k_lt (k_up w18 11 ((w18 9 3).toNatClampNeg) a2) fun w28 => k_ck (0 ≤ (w28 9 3) ∧ (w28 9 3) < 8) (k_lt (k_up w28 12 ((w28 9 3).toNatClampNeg) a3) fun w38 => k_lt (k_up w38 9 3 ((w38 9 3) + 1)) fun w46 => some w46))))
def f_X6_readSpot_46 (u : k_U) (a2 : Int32) (a3 : Int32) : Option k_U :=
  k_bd (f_X4_takeNumber (u 1) 1 99) fun r50 => k_lt (k_uc u 1 r50.1) fun u50 => k_bd (f_X8_add (u50 14) a2 a3 r50.2) fun r66 => k_lt (k_uc u50 14 r66) fun u66 => some u66
def f_X6_readSpot_20 (u : k_U) : Option k_U :=
  k_bd (f_X4_takeSigned (u 1) 9999) fun r24 => k_lt (k_uc u 1 r24.1) fun u24 => k_bd (f_X4_takeSigned (u24 1) 9999) fun r32 => k_lt (k_uc u24 1 r32.1) fun u32 => (if r24.2 ≤ r32.2 then f_X6_readSpot_46 u32 r24.2 r32.2 else k_bd (f_X4_failTaken (u32 1) 3) fun r43 => k_lt (k_uc u32 1 r43) fun u43 => f_X6_readSpot_46 u43 r24.2 r32.2)
def f_X6_readSpot (u : k_U) : Option k_U :=
  (if (u 14 9 3) < 8 then f_X6_readSpot_20 u else k_bd (f_X4_failTaken (u 1) 4) fun r17 => k_lt (k_uc u 1 r17) fun u17 => f_X6_readSpot_20 u17)
def f_X2_placeOf_2_b (K2 : k_M → Nat → Int32 → Int32 → Option Int32) (w : k_M) (tc : Nat) (a1 : Int32) (a2 : Int32) : Option Int32 :=
  (if (w tc 2) ≤ a2 then some (-1) else k_ck (0 ≤ a2 ∧ a2 < 8) ((if (w (tc + 1) a2.toNatClampNeg) = a1 then some a2 else k_lt (a2 + 1) fun x22 => K2 w tc a1 x22)))
def f_X2_placeOf_2 : Nat → k_M → Nat → Int32 → Int32 → Option Int32
  | 0 => fun _ _ _ _ => none
  | n + 1 => fun w tc a1 a2 => f_X2_placeOf_2_b (f_X2_placeOf_2 n) w tc a1 a2
def f_X2_placeOf (w : k_M) (tc : Nat) (a1 : Int32) : Option Int32 :=
  f_X2_placeOf_2 k_N w tc a1 0
def f_X6_takeNewHeight_14 (u : k_U) (c2 : Nat) (a3 : Int32) : Option (k_U × Int32) :=
  k_bd (f_X4_takeNumber (u 1) a3 30000) fun r19 => k_lt (k_uc u 1 r19.1) fun u19 => k_bd (f_X2_placeOf (u19 14) c2 r19.2) fun r27 => (if r27 = (-1) then some (u19, r19.2) else k_bd (f_X4_failTaken (u19 1) 3) fun r36 => k_lt (k_uc u19 1 r36) fun u36 => some (u36, r19.2))
def f_X6_takeNewHeight (u : k_U) (c2 : Nat) (a3 : Int32) : Option (k_U × Int32) :=
  (if (u 14 c2 2) < 8 then f_X6_takeNewHeight_14 u c2 a3 else k_bd (f_X4_failTaken (u 1) 4) fun r11 => k_lt (k_uc u 1 r11) fun u11 => f_X6_takeNewHeight_14 u11 c2 a3)
def f_X2_put_35 (w : k_M) (tc : Nat) (a1 : Int32) (a2 : Int32) (a3 : Int32) : Option k_M :=
  (if a3 = (-1) then some w else k_ck (0 ≤ a3 ∧ a3 < 8) (k_lt (k_up w (tc + 1) a3.toNatClampNeg a1) fun w46 => k_ck (0 ≤ a3 ∧ a3 < 8) (k_lt (k_up w46 (tc + 2) a3.toNatClampNeg a2) fun w53 => some w53)))
def f_X2_put (w : k_M) (tc : Nat) (a1 : Int32) (a2 : Int32) : Option k_M :=
  k_bd (f_X2_placeOf w tc a1) fun r2 => (if r2 = (-1) then (if 8 ≤ (w tc 2) then f_X2_put_35 w tc a1 a2 r2 else k_lt (w tc 2) fun x24 => k_lt (k_up w tc 2 ((w tc 2) + 1)) fun w32 => f_X2_put_35 w32 tc a1 a2 x24) else f_X2_put_35 w tc a1 a2 r2)
def f_X6_readWind (u : k_U) : Option k_U :=
  k_bd (f_X6_takeNewHeight u 6 0) fun r10 => k_bd (f_X4_takeSigned (r10.1 1) 40) fun r17 => k_lt (k_uc r10.1 1 r17.1) fun u17 => k_bd (f_X2_put (u17 14) 6 r10.2 r17.2) fun r30 => k_lt (k_uc u17 14 r30) fun u30 => some u30
def f_X6_readHeightAndSpeed (u : k_U) : Option k_U :=
  k_bd (f_X6_takeNewHeight u 3 1) fun r10 => k_bd (f_X4_takeNumber (r10.1 1) 1 400) fun r19 => k_lt (k_uc r10.1 1 r19.1) fun u19 => k_bd (f_X2_put (u19 14) 3 r10.2 r19.2) fun r32 => k_lt (k_uc u19 14 r32) fun u32 => some u32
def f_X0_pack (w : k_M) (q : Nat) (a1 : Int32) (a2 : Int32) (a3 : Int32) (a4 : Int32) (a5 : Int32) : Option k_M :=
  k_lt (k_up w q 0 a1) fun w2 => k_lt (k_up w2 q 1 a2) fun w7 => k_lt (k_up w7 q 2 a3) fun w12 => k_lt (k_up w12 q 3 a4) fun w18 => k_lt (k_up w18 q 4 a5) fun w24 => k_lt (k_up w24 q 5 0) fun w29 => k_lt (k_up w29 q 6 0) fun w34 => k_lt (k_up w34 q 7 0) fun w39 => some w39
def f_X6_readChute (u : k_U) (q2 : Nat) (t3 : Nat) (a4 : Int32) : Option k_U :=
  k_bd (f_X4_takeNumber (u 1) 1 99) fun r4 => k_lt (k_uc u 1 r4.1) fun u4 => k_bd (f_X4_takeNumber (u4 1) 1 12) fun r13 => k_lt (k_uc u4 1 r13.1) fun u13 => k_bd (f_X4_takeNumber (u13 1) 1 9999) fun r23 => k_lt (k_uc u13 1 r23.1) fun u23 => k_bd (f_X4_takeWord (u23 1) 10) fun r31 => k_lt (k_uc u23 1 r31) fun u31 => k_bd (f_X4_takeNumber (u31 1) 1 30000) fun r39 => k_lt (k_uc u31 1 r39.1) fun u39 => k_bd (f_X4_takeWord (u39 1) t3) fun r46 => k_lt (k_uc u39 1 r46) fun u46 => k_bd (f_X4_takeNumber (u46 1) 1 a4) fun r53 => k_lt (k_uc u46 1 r53.1) fun u53 => k_bd (f_X0_pack (u53 14) q2 r4.2 r13.2 r23.2 r39.2 r53.2) fun r69 => k_lt (k_uc u53 14 r69) fun u69 => some u69
def f_X6_readReserve (u : k_U) : Option k_U :=
  (if (u 14 0 11) = 0 then k_bd (f_X6_readChute u 2 9 8) fun r29 => k_lt (k_uc r29 14 (k_up (r29 14) 0 11 1)) fun u37 => some u37 else k_bd (f_X4_failTaken (u 1) 3) fun r12 => k_lt (k_uc u 1 r12) fun u12 => some u12)
def f_X6_readLayer (u : k_U) : Option k_U :=
  (if (u 14 0 10) < 8 then k_ck (0 ≤ (u 14 0 10) ∧ (u 14 0 10) < 8) (k_bd (f_X6_readChute u (15 + (u 14 0 10).toNatClampNeg) 7 400) fun r42 => k_bd (f_X4_skipWord (r42 1) 8) fun r49 => k_lt (k_uc r42 1 r49.1) fun u49 => k_ck (r49.2 = 0 ∨ r49.2 = 1) (k_lt (k_uc u49 14 (k_up (u49 14) (15 + (u 14 0 10).toNatClampNeg) 6 r49.2)) fun u52 => k_lt (k_uc u52 14 (k_up (u52 14) 0 10 ((u52 14 0 10) + 1))) fun u65 => some u65)) else k_bd (f_X4_failTaken (u 1) 4) fun r14 => k_lt (k_uc u 1 r14) fun u14 => some u14)
def f_X6_readStatement (u : k_U) : Option k_U :=
  k_bd (f_X4_skipWord (u 1) 1) fun r3 => k_lt (k_uc u 1 r3.1) fun u3 => (if r3.2 = 0 then k_bd (f_X4_skipWord (u3 1) 2) fun r20 => k_lt (k_uc u3 1 r20.1) fun u20 => (if r20.2 = 0 then k_bd (f_X4_skipWord (u20 1) 3) fun r37 => k_lt (k_uc u20 1 r37.1) fun u37 => (if r37.2 = 0 then k_bd (f_X4_skipWord (u37 1) 4) fun r54 => k_lt (k_uc u37 1 r54.1) fun u54 => (if r54.2 = 0 then k_bd (f_X4_skipWord (u54 1) 5) fun r71 => k_lt (k_uc u54 1 r71.1) fun u71 => (if r71.2 = 0 then k_bd (f_X4_skipWord (u71 1) 6) fun r88 => k_lt (k_uc u71 1 r88.1) fun u88 => (if r88.2 = 0 then k_bd (f_X4_failHere (u88 1) 1) fun r113 => k_lt (k_uc u88 1 r113) fun u113 => some u113 else k_bd (f_X4_takeNumber (u88 1) 0 99) fun r102 => k_lt (k_uc u88 1 r102.1) fun u102 => k_lt (k_uc u102 14 (k_up (u102 14) 0 7 r102.2)) fun u105 => some u105) else k_bd (f_X6_readSpot u71) fun r79 => some r79) else k_bd (f_X6_readWind u54) fun r62 => some r62) else k_bd (f_X6_readHeightAndSpeed u37) fun r45 => some r45) else k_bd (f_X6_readReserve u20) fun r28 => some r28) else k_bd (f_X6_readLayer u3) fun r11 => some r11)
def f_X6_readSetup_94 (u : k_U) : Option (k_U × Int32) :=
  k_bd (f_X4_hasFailed (u 1)) fun r95 => (if r95 = 0 then some (u, 1) else some (u, 0))
def f_X6_readSetup_64_b (K64 : k_U → Int32 → Option (k_U × Int32)) (u : k_U) (a5 : Int32) : Option (k_U × Int32) :=
  (if 600 ≤ a5 then f_X6_readSetup_94 u else k_bd (f_X4_hasMore (u 1)) fun r73 => (if r73 = 0 then f_X6_readSetup_94 u else k_bd (f_X6_readStatement u) fun r81 => k_bd (f_X4_takeSemicolon (r81 1)) fun r85 => k_lt (k_uc r81 1 r85) fun u85 => k_lt (a5 + 1) fun x88 => K64 u85 x88))
def f_X6_readSetup_64 : Nat → k_U → Int32 → Option (k_U × Int32)
  | 0 => fun _ _ => none
  | n + 1 => fun u a5 => f_X6_readSetup_64_b (f_X6_readSetup_64 n) u a5
def f_X6_readSetup (u : k_U) : Option (k_U × Int32) :=
  k_bd (f_X4_begin (u 1)) fun r1 => k_lt (k_uc u 1 r1) fun u1 => k_bd (f_X4_takeWord (u1 1) 0) fun r7 => k_lt (k_uc u1 1 r7) fun u7 => k_bd (f_X4_takeNumber (u7 1) 1 30000) fun r15 => k_lt (k_uc u7 1 r15.1) fun u15 => k_bd (f_X4_takeNumber (u15 1) 0 400) fun r24 => k_lt (k_uc u15 1 r24.1) fun u24 => k_bd (f_X4_takeNumber (u24 1) 1 99) fun r32 => k_lt (k_uc u24 1 r32.1) fun u32 => k_bd (f_X4_takeSemicolon (u32 1)) fun r38 => k_lt (k_uc u32 1 r38) fun u38 => k_bd (f_X4_hasFailed (u38 1)) fun r42 => (if r42 = 0 then k_bd (f_X9_begin (u38 14) r15.2 r24.2 r32.2) fun r58 => k_lt (k_uc u38 14 r58) fun u58 => f_X6_readSetup_64 k_N u58 0 else some (u38, 0))
def f_X4_emptyText (w : k_M) : Option k_M :=
  k_lt (k_up w 0 2 0) fun w2 => some w2
def f_X0_copyFrom (w : k_M) (o : k_M) (q : Nat) (q2 : Nat) : Option k_M :=
  k_lt (k_up w q 0 (o q2 0)) fun w5 => k_lt (k_up w5 q 1 (o q2 1)) fun w13 => k_lt (k_up w13 q 2 (o q2 2)) fun w21 => k_lt (k_up w21 q 3 (o q2 3)) fun w29 => k_lt (k_up w29 q 4 (o q2 4)) fun w37 => k_lt (k_up w37 q 5 (o q2 5)) fun w45 => k_ck ((o q2 6) = 0 ∨ (o q2 6) = 1) (k_lt (k_up w45 q 6 (o q2 6)) fun w53 => k_lt (k_up w53 q 7 (o q2 7)) fun w61 => some w61)
def f_X2_copyFrom (w : k_M) (o : k_M) (tc : Nat) : Option k_M :=
  k_lt (k_cp w (tc + 1) (fun j => if j < 8 then o (tc + 1) j else w (tc + 1) j)) fun w12 => k_lt (k_cp w12 (tc + 2) (fun j => if j < 8 then o (tc + 2) j else w12 (tc + 2) j)) fun w27 => k_lt (k_up w27 tc 2 (o tc 2)) fun w35 => some w35
def f_X8_copyFrom (w : k_M) (o : k_M) : Option k_M :=
  k_lt (k_cp w 10 (fun j => if j < 8 then o 10 j else w 10 j)) fun w12 => k_lt (k_cp w12 11 (fun j => if j < 8 then o 11 j else w12 11 j)) fun w27 => k_lt (k_cp w27 12 (fun j => if j < 8 then o 12 j else w27 12 j)) fun w42 => k_lt (k_up w42 9 3 (o 9 3)) fun w50 => some w50
def f_X1_copyFrom (w : k_M) (o : k_M) : Option k_M :=
  k_lt (k_cp w 14 (fun j => if j < 120 then o 14 j else w 14 j)) fun w12 => k_lt (k_up w12 13 1 (o 13 1)) fun w20 => k_lt (k_up w20 13 2 (o 13 2)) fun w28 => some w28
def f_X9_copyFrom_98_b (K98 : k_M → k_M → Int32 → Option k_M) (w : k_M) (o : k_M) (a2 : Int32) : Option k_M :=
  (if (w 0 10) ≤ a2 then k_bd (f_X0_copyFrom w o 2 2) fun r135 => k_bd (f_X2_copyFrom r135 o 3) fun r146 => k_bd (f_X2_copyFrom r146 o 6) fun r157 => k_bd (f_X8_copyFrom r157 o) fun r168 => k_bd (f_X1_copyFrom r168 o) fun r179 => some r179 else k_ck (0 ≤ a2 ∧ a2 < 8) (k_ck (0 ≤ a2 ∧ a2 < 8) (k_bd (f_X0_copyFrom w o (15 + a2.toNatClampNeg) (15 + a2.toNatClampNeg)) fun r118 => k_lt (a2 + 1) fun x121 => K98 r118 o x121)))
def f_X9_copyFrom_98 : Nat → k_M → k_M → Int32 → Option k_M
  | 0 => fun _ _ _ => none
  | n + 1 => fun w o a2 => f_X9_copyFrom_98_b (f_X9_copyFrom_98 n) w o a2
def f_X9_copyFrom (w : k_M) (o : k_M) : Option k_M :=
  k_lt (k_up w 0 0 (o 0 0)) fun w5 => k_lt (k_up w5 0 1 (o 0 1)) fun w13 => k_lt (k_up w13 0 2 (o 0 2)) fun w21 => k_lt (k_up w21 0 3 (o 0 3)) fun w29 => k_lt (k_up w29 0 4 (o 0 4)) fun w37 => k_lt (k_up w37 0 5 (o 0 5)) fun w45 => k_lt (k_up w45 0 6 (o 0 6)) fun w53 => k_lt (k_up w53 0 7 (o 0 7)) fun w61 => k_lt (k_up w61 0 8 (o 0 8)) fun w69 => k_lt (k_up w69 0 9 (o 0 9)) fun w77 => k_lt (k_up w77 0 10 (o 0 10)) fun w85 => k_ck ((o 0 11) = 0 ∨ (o 0 11) = 1) (k_lt (k_up w85 0 11 (o 0 11)) fun w93 => f_X9_copyFrom_98 k_N w93 o 0)
def f_X3_forget (u : k_U) : Option k_U :=
  k_lt (k_uc u 4 (k_up (u 4) 0 2 0)) fun u2 => some u2
def f_X9_chuteCount (w : k_M) : Option Int32 :=
  (if (w 0 11) = 0 then some (w 0 10) else some ((w 0 10) + 1))
def f_X10_load (u : k_U) : Option (k_U × Int32) :=
  k_bd (f_X6_readSetup u) fun r8 => k_bd (f_X4_emptyText (r8.1 1)) fun r16 => k_lt (k_uc r8.1 1 r16) fun u16 => (if r8.2 = 0 then some (u16, (-1)) else k_bd (f_X9_copyFrom (u16 10) (u16 14)) fun r36 => k_lt (k_uc u16 10 r36) fun u36 => k_bd (f_X3_forget u36) fun r43 => k_bd (f_X9_chuteCount (r43 10)) fun r50 => some (r43, r50))
def f_X5_takeKind (u : k_U) : Option (k_U × Int32) :=
  k_bd (f_X4_skipWord (u 1) 11) fun r3 => k_lt (k_uc u 1 r3.1) fun u3 => (if r3.2 = 0 then k_bd (f_X4_skipWord (u3 1) 12) fun r14 => k_lt (k_uc u3 1 r14.1) fun u14 => (if r14.2 = 0 then k_bd (f_X4_skipWord (u14 1) 13) fun r25 => k_lt (k_uc u14 1 r25.1) fun u25 => (if r25.2 = 0 then k_bd (f_X4_skipWord (u25 1) 14) fun r36 => k_lt (k_uc u25 1 r36.1) fun u36 => (if r36.2 = 0 then k_bd (f_X4_skipWord (u36 1) 15) fun r47 => k_lt (k_uc u36 1 r47.1) fun u47 => (if r47.2 = 0 then k_bd (f_X4_skipWord (u47 1) 16) fun r58 => k_lt (k_uc u47 1 r58.1) fun u58 => (if r58.2 = 0 then k_bd (f_X4_failHere (u58 1) 1) fun r68 => k_lt (k_uc u58 1 r68) fun u68 => some (u68, (-1)) else some (u58, 5)) else some (u47, 4)) else some (u36, 3)) else some (u25, 2)) else some (u14, 1)) else some (u3, 0))
def f_X5_takeArgument (u : k_U) (a2 : Int32) (a3 : Int32) (a4 : Int32) : Option (k_U × Int32) :=
  (if a2 = 0 then k_bd (f_X4_takeNumber (u 1) 1 200) fun r45 => k_lt (k_uc u 1 r45.1) fun u45 => some (u45, r45.2) else (if a2 = 1 then k_bd (f_X4_takeNumber (u 1) 0 30000) fun r54 => k_lt (k_uc u 1 r54.1) fun u54 => some (u54, r54.2) else (if a2 = 2 then k_bd (f_X4_takeNumber (u 1) 0 (a3 - 1)) fun r63 => k_lt (k_uc u 1 r63.1) fun u63 => some (u63, r63.2) else (if a2 = 3 then some (u, 0) else (if a2 = 4 then k_bd (f_X4_takeNumber (u 1) 0 (a4 - 1)) fun r73 => k_lt (k_uc u 1 r73.1) fun u73 => some (u73, r73.2) else (if a2 = 5 then k_bd (f_X4_takeSigned (u 1) 9) fun r80 => k_lt (k_uc u 1 r80.1) fun u80 => some (u80, r80.2) else some (u, 0)))))))
def f_X5_readCommand_21 (u : k_U) (a2 : Int32) (a3 : Int32) (a4 : Int32) : Option k_U :=
  k_bd (f_X5_takeArgument u a4 a2 a3) fun r27 => k_bd (f_X4_takeSemicolon (r27.1 1)) fun r33 => k_lt (k_uc r27.1 1 r33) fun u33 => k_bd (f_X4_hasFailed (u33 1)) fun r37 => (if r37 = 0 then (if 40 ≤ (u33 2 0 2) then some u33 else k_ck (0 ≤ (u33 2 0 2) ∧ (u33 2 0 2) < 40) (k_lt (k_uc u33 2 (k_up (u33 2) 1 ((u33 2 0 2).toNatClampNeg) a4)) fun u62 => k_ck (0 ≤ (u62 2 0 2) ∧ (u62 2 0 2) < 40) (k_lt (k_uc u62 2 (k_up (u62 2) 2 ((u62 2 0 2).toNatClampNeg) r27.2)) fun u73 => k_lt (k_uc u73 2 (k_up (u73 2) 0 2 ((u73 2 0 2) + 1))) fun u81 => some u81))) else some u33)
def f_X5_readCommand (u : k_U) (a2 : Int32) (a3 : Int32) : Option k_U :=
  k_bd (f_X5_takeKind u) fun r2 => (if (r2.1 2 0 2) < 40 then f_X5_readCommand_21 r2.1 a2 a3 r2.2 else k_bd (f_X4_failTaken (r2.1 1) 4) fun r18 => k_lt (k_uc r2.1 1 r18) fun u18 => f_X5_readCommand_21 u18 a2 a3 r2.2)
def f_X5_readCommands_40 (u : k_U) (a2 : Int32) (a3 : Int32) : Option (k_U × Int32) :=
  k_bd (f_X4_hasFailed (u 1)) fun r41 => (if r41 = 0 then some (u, 1) else some (u, 0))
def f_X5_readCommands_12_b (K12 : k_U → Int32 → Int32 → Int32 → Option (k_U × Int32)) (u : k_U) (a2 : Int32) (a3 : Int32) (a4 : Int32) : Option (k_U × Int32) :=
  (if 600 ≤ a4 then f_X5_readCommands_40 u a2 a3 else k_bd (f_X4_hasMore (u 1)) fun r21 => (if r21 = 0 then f_X5_readCommands_40 u a2 a3 else k_bd (f_X5_readCommand u a2 a3) fun r31 => k_lt (a4 + 1) fun x34 => K12 r31 a2 a3 x34))
def f_X5_readCommands_12 : Nat → k_U → Int32 → Int32 → Int32 → Option (k_U × Int32)
  | 0 => fun _ _ _ _ => none
  | n + 1 => fun u a2 a3 a4 => f_X5_readCommands_12_b (f_X5_readCommands_12 n) u a2 a3 a4
def f_X5_readCommands (u : k_U) (a2 : Int32) (a3 : Int32) : Option (k_U × Int32) :=
  k_lt (k_uc u 2 (k_up (u 2) 0 2 0)) fun u2 => k_bd (f_X4_begin (u2 1)) fun r6 => k_lt (k_uc u2 1 r6) fun u6 => f_X5_readCommands_12 k_N u6 a2 a3 0
def f_X9_hasLanded (w : k_M) : Option Int32 :=
  (if (w 0 0) = 0 then some 1 else some 0)
def f_X3_remember (u : k_U) : Option k_U :=
  k_ck (0 ≤ (u 4 0 1) ∧ (u 4 0 1) < 8) (k_bd (f_X9_copyFrom (u (15 + (u 4 0 1).toNatClampNeg)) (u 10)) fun r10 => k_lt (k_uc u (15 + (u 4 0 1).toNatClampNeg) r10) fun u10 => k_lt (k_uc u10 4 (k_up (u10 4) 0 1 (((u10 4 0 1) + 1) - ((u10 4 0 1) + 1) / 8 * 8))) fun u23 => k_lt (k_uc u23 4 (k_up (u23 4) 0 2 (k_mini ((u23 4 0 2) + 1) 8))) fun u38 => some u38)
def f_X10_beginAct (u : k_U) : Option k_U :=
  k_lt (k_uc u 0 (k_up (u 0) 3 0 ((u 0 3 0) + 1))) fun u9 => k_bd (f_X3_remember u9) fun r18 => some r18
def f_X9_air (w : k_M) : Option Int32 :=
  some (100 - ((w 0 0) / 400))
def f_X2_valueAtOrAbove_49 (K5 : k_M → Nat → Int32 → Int32 → Int32 → Int32 → Option Int32) (w : k_M) (tc : Nat) (a1 : Int32) (a2 : Int32) (a3 : Int32) (a4 : Int32) : Option Int32 :=
  k_lt (a4 + 1) fun x49 => K5 w tc a1 a2 a3 x49
def f_X2_valueAtOrAbove_46 (K5 : k_M → Nat → Int32 → Int32 → Int32 → Int32 → Option Int32) (w : k_M) (tc : Nat) (a1 : Int32) (a2 : Int32) (a4 : Int32) : Option Int32 :=
  f_X2_valueAtOrAbove_49 K5 w tc a1 a2 a4 a4
def f_X2_valueAtOrAbove_5_b (K5 : k_M → Nat → Int32 → Int32 → Int32 → Int32 → Option Int32) (w : k_M) (tc : Nat) (a1 : Int32) (a2 : Int32) (a3 : Int32) (a4 : Int32) : Option Int32 :=
  (if (w tc 2) ≤ a4 then (if a3 = (-1) then some a2 else k_ck (0 ≤ a3 ∧ a3 < 8) (some (w (tc + 2) a3.toNatClampNeg))) else k_ck (0 ≤ a4 ∧ a4 < 8) ((if (w (tc + 1) a4.toNatClampNeg) < a1 then f_X2_valueAtOrAbove_49 K5 w tc a1 a2 a3 a4 else (if a3 = (-1) then f_X2_valueAtOrAbove_46 K5 w tc a1 a2 a4 else k_ck (0 ≤ a4 ∧ a4 < 8) (k_ck (0 ≤ a3 ∧ a3 < 8) ((if (w (tc + 1) a3.toNatClampNeg) ≤ (w (tc + 1) a4.toNatClampNeg) then f_X2_valueAtOrAbove_49 K5 w tc a1 a2 a3 a4 else f_X2_valueAtOrAbove_46 K5 w tc a1 a2 a4)))))))
def f_X2_valueAtOrAbove_5 : Nat → k_M → Nat → Int32 → Int32 → Int32 → Int32 → Option Int32
  | 0 => fun _ _ _ _ _ _ => none
  | n + 1 => fun w tc a1 a2 a3 a4 => f_X2_valueAtOrAbove_5_b (f_X2_valueAtOrAbove_5 n) w tc a1 a2 a3 a4
def f_X2_valueAtOrAbove (w : k_M) (tc : Nat) (a1 : Int32) (a2 : Int32) : Option Int32 :=
  f_X2_valueAtOrAbove_5 k_N w tc a1 a2 (-1) 0
def f_X9_asksForBrakes (w : k_M) : Option Int32 :=
  k_bd (f_X2_valueAtOrAbove w 3 (w 0 0) (-1)) fun r9 => (if r9 = (-1) then some 0 else (if (w 0 1) ≤ r9 then some 0 else some 1))
def f_X0_isPackedAndBelowCeiling (w : k_M) (q : Nat) (a1 : Int32) : Option Int32 :=
  (if (w q 5) = 0 then (if (w q 3) < a1 then some 0 else some 1) else some 0)
def f_X9_firstLayerThatMayOpen_44 (K2 : k_M → Int32 → Option Int32) (w : k_M) (a1 : Int32) : Option Int32 :=
  k_lt (a1 + 1) fun x44 => K2 w x44
def f_X9_firstLayerThatMayOpen_2_b (K2 : k_M → Int32 → Option Int32) (w : k_M) (a1 : Int32) : Option Int32 :=
  (if (w 0 10) ≤ a1 then some (-1) else k_ck (0 ≤ a1 ∧ a1 < 8) (k_bd (f_X0_isPackedAndBelowCeiling w (15 + a1.toNatClampNeg) (w 0 0)) fun r20 => (if r20 = 0 then f_X9_firstLayerThatMayOpen_44 K2 w a1 else k_ck (0 ≤ a1 ∧ a1 < 8) ((if (w (15 + a1.toNatClampNeg) 4) < (w 0 1) then f_X9_firstLayerThatMayOpen_44 K2 w a1 else some a1)))))
def f_X9_firstLayerThatMayOpen_2 : Nat → k_M → Int32 → Option Int32
  | 0 => fun _ _ => none
  | n + 1 => fun w a1 => f_X9_firstLayerThatMayOpen_2_b (f_X9_firstLayerThatMayOpen_2 n) w a1
def f_X9_firstLayerThatMayOpen (w : k_M) : Option Int32 :=
  f_X9_firstLayerThatMayOpen_2 k_N w 0
def f_X0_hasFailed (w : k_M) (q : Nat) : Option Int32 :=
  (if (w q 5) = 2 then some 1 else (if (w q 5) = 3 then some 1 else some 0))
def f_X9_failedLayers_27 (K4 : k_M → Int32 → Int32 → Option Int32) (w : k_M) (a1 : Int32) (a2 : Int32) : Option Int32 :=
  k_lt (a2 + 1) fun x27 => K4 w a1 x27
def f_X9_failedLayers_4_b (K4 : k_M → Int32 → Int32 → Option Int32) (w : k_M) (a1 : Int32) (a2 : Int32) : Option Int32 :=
  (if (w 0 10) ≤ a2 then some a1 else k_ck (0 ≤ a2 ∧ a2 < 8) (k_bd (f_X0_hasFailed w (15 + a2.toNatClampNeg)) fun r18 => (if r18 = 0 then f_X9_failedLayers_27 K4 w a1 a2 else k_lt (a1 + 1) fun x24 => f_X9_failedLayers_27 K4 w x24 a2)))
def f_X9_failedLayers_4 : Nat → k_M → Int32 → Int32 → Option Int32
  | 0 => fun _ _ _ => none
  | n + 1 => fun w a1 a2 => f_X9_failedLayers_4_b (f_X9_failedLayers_4 n) w a1 a2
def f_X9_failedLayers (w : k_M) : Option Int32 :=
  f_X9_failedLayers_4 k_N w 0 0
def f_X1_record (w : k_M) (a1 : Int32) (a2 : Int32) (a3 : Int32) (a4 : Int32) : Option k_M :=
  k_lt (((((w 13 1) + (w 13 2)) - ((w 13 1) + (w 13 2)) / 30 * 30) * 4)) fun x14 => k_ck (0 ≤ x14 ∧ x14 < 120) (k_lt (k_up w 14 x14.toNatClampNeg a1) fun w23 => k_ck (0 ≤ (x14 + 1) ∧ (x14 + 1) < 120) (k_lt (k_up w23 14 ((x14 + 1).toNatClampNeg) a2) fun w33 => k_ck (0 ≤ (x14 + 2) ∧ (x14 + 2) < 120) (k_lt (k_up w33 14 ((x14 + 2).toNatClampNeg) a3) fun w43 => k_ck (0 ≤ (x14 + 3) ∧ (x14 + 3) < 120) (k_lt (k_up w43 14 ((x14 + 3).toNatClampNeg) a4) fun w54 => (if 30 ≤ (w54 13 2) then k_lt (k_up w54 13 1 (((w54 13 1) + 1) - ((w54 13 1) + 1) / 30 * 30)) fun w87 => some w87 else k_lt (k_up w54 13 2 ((w54 13 2) + 1)) fun w71 => some w71)))))
def f_X9_openTheReserve (w : k_M) (a1 : Int32) : Option k_M :=
  k_lt (k_up w 2 5 1) fun w5 => k_bd (f_X1_record w5 (w5 0 6) 4 (w5 0 10) a1) fun r22 => some r22
def f_X9_openLayer (w : k_M) (a1 : Int32) : Option k_M :=
  k_ck (0 ≤ a1 ∧ a1 < 8) ((if (w (15 + a1.toNatClampNeg) 6) = 0 then k_lt (k_up w (15 + a1.toNatClampNeg) 5 1) fun w41 => k_bd (f_X1_record w41 (w41 0 6) 0 a1 (w41 0 1)) fun r58 => some r58 else k_lt (k_up w (15 + a1.toNatClampNeg) 5 3) fun w16 => k_bd (f_X1_record w16 (w16 0 6) 3 a1 (w16 0 1)) fun r33 => some r33))
def f_X9_openWhatMay (w : k_M) : Option k_M :=
  k_bd (f_X9_firstLayerThatMayOpen w) fun r1 => k_bd (f_X9_failedLayers w) fun r6 => (if r1 = (-1) then (if (w 0 11) = 0 then some w else k_bd (f_X0_isPackedAndBelowCeiling w 2 (w 0 0)) fun r38 => (if r38 = 0 then some w else (if r6 < (w 2 4) then some w else k_bd (f_X9_openTheReserve w r6) fun r57 => some r57))) else k_bd (f_X9_openLayer w r1) fun r17 => some r17)
def f_X9_hasLayer (w : k_M) (a1 : Int32) : Option Int32 :=
  (if a1 < 0 then some 0 else (if (w 0 10) ≤ a1 then some 0 else some 1))
def f_X9_chuteAt (w : k_M) (a1 : Int32) : Option Nat :=
  k_bd (f_X9_hasLayer w a1) fun r2 => (if r2 = 0 then some 2 else k_ck (0 ≤ a1 ∧ a1 < 8) (some (15 + a1.toNatClampNeg)))
def f_X0_pull (w : k_M) (q : Nat) (a1 : Int32) (a2 : Int32) : Option Int64 :=
  some ((((((w q 0).toInt64) * a1.toInt64) * a2.toInt64) * a2.toInt64) / (10000 : Int64))
def f_X0_loadOfOneLine_27 (w : k_M) (q : Nat) (a3 : Int32) (a4 : Int32) (a1 : Int64) (a5 : Int32) (as0 : Int32) : Option Int64 :=
  k_lt (((a1 * ((100 + (5 * as0)).toInt64)) / (100 : Int64))) fun x43 => k_ck (¬ a5.toInt64 = 0) (some (((x43 + a5.toInt64) - (1 : Int64)) / a5.toInt64))
def f_X0_loadOfOneLine (w : k_M) (q : Nat) (a1 : Int64) (a3 : Int32) (a4 : Int32) : Option Int64 :=
  k_lt (((w q 1) - a4)) fun x7 => (if 1 ≤ x7 then (if 0 ≤ a3 then f_X0_loadOfOneLine_27 w q a3 a4 a1 x7 a3 else f_X0_loadOfOneLine_27 w q a3 a4 a1 x7 (-a3)) else some (0 : Int64))
def f_X0_strengthOf (w : k_M) (q : Nat) (a1 : Int32) : Option Int32 :=
  some ((w q 2) + (3 * a1))
def f_X0_linesThatTear_81 (w : k_M) (q : Nat) (a1 : Int64) (a3 : Int32) (a4 : Int32) (a5 : Int32) : Option Int32 :=
  some (a5 - (w q 7))
def f_X0_linesThatTear_78 (K9 : k_M → Nat → Int64 → Int32 → Int32 → Int32 → Int32 → Option Int32) (w : k_M) (q : Nat) (a1 : Int64) (a3 : Int32) (a4 : Int32) (a5 : Int32) (a6 : Int32) : Option Int32 :=
  K9 w q a1 a3 a4 a5 a6
def f_X0_linesThatTear_39_b (K9 : k_M → Nat → Int64 → Int32 → Int32 → Int32 → Int32 → Option Int32) (K39 : k_M → Nat → Int64 → Int32 → Int32 → Int32 → Int32 → Int64 → Option Int32) (w : k_M) (q : Nat) (a1 : Int64) (a3 : Int32) (a4 : Int32) (a5 : Int32) (a6 : Int32) (a7 : Int64) : Option Int32 :=
  (if (w q 1) ≤ a5 then f_X0_linesThatTear_78 K9 w q a1 a3 a4 a5 a6 else k_bd (f_X0_strengthOf w q a5) fun r51 => (if 0 ≤ (lg_cmp (((r51 * (1000 - a4)) / 1000).toInt64) a7) then f_X0_linesThatTear_78 K9 w q a1 a3 a4 a5 a6 else k_lt (a5 + 1) fun x72 => K39 w q a1 a3 a4 x72 a6 a7))
def f_X0_linesThatTear_39 (K9 : k_M → Nat → Int64 → Int32 → Int32 → Int32 → Int32 → Option Int32) : Nat → k_M → Nat → Int64 → Int32 → Int32 → Int32 → Int32 → Int64 → Option Int32
  | 0 => fun _ _ _ _ _ _ _ _ => none
  | n + 1 => fun w q a1 a3 a4 a5 a6 a7 => f_X0_linesThatTear_39_b K9 (f_X0_linesThatTear_39 K9 n) w q a1 a3 a4 a5 a6 a7
def f_X0_linesThatTear_9_b (K9 : k_M → Nat → Int64 → Int32 → Int32 → Int32 → Int32 → Option Int32) (w : k_M) (q : Nat) (a1 : Int64) (a3 : Int32) (a4 : Int32) (a5 : Int32) (a6 : Int32) : Option Int32 :=
  (if a5 ≤ a6 then f_X0_linesThatTear_81 w q a1 a3 a4 a5 else (if (w q 1) ≤ a5 then f_X0_linesThatTear_81 w q a1 a3 a4 a5 else k_bd (f_X0_loadOfOneLine w q a1 a3 a5) fun r34 => f_X0_linesThatTear_39 K9 k_N w q a1 a3 a4 a5 a5 r34))
def f_X0_linesThatTear_9 : Nat → k_M → Nat → Int64 → Int32 → Int32 → Int32 → Int32 → Option Int32
  | 0 => fun _ _ _ _ _ _ _ => none
  | n + 1 => fun w q a1 a3 a4 a5 a6 => f_X0_linesThatTear_9_b (f_X0_linesThatTear_9 n) w q a1 a3 a4 a5 a6
def f_X0_linesThatTear (w : k_M) (q : Nat) (a1 : Int64) (a3 : Int32) (a4 : Int32) : Option Int32 :=
  k_lt (w q 7) fun x4 => f_X0_linesThatTear_9 k_N w q a1 a3 a4 x4 (-1)
def f_X0_linesThere (w : k_M) (q : Nat) : Option Int32 :=
  some ((w q 1) - (w q 7))
def f_X9_tear (w : k_M) (q1 : Nat) (a2 : Int32) (a3 : Int32) : Option k_M :=
  k_lt (k_up w q1 7 ((w q1 7) + a3)) fun w7 => k_bd (f_X1_record w7 (w7 0 6) 1 a2 a3) fun r21 => k_bd (f_X0_linesThere r21 q1) fun r25 => (if r25 = 0 then k_lt (k_up r21 q1 5 2) fun w33 => k_bd (f_X1_record w33 (w33 0 6) 2 a2 (w33 q1 0)) fun r50 => some r50 else some r21)
def f_X9_tearAndBrake_118 (K32 : k_M → Int32 → Int64 → Int32 → Int32 → Option (k_M × Int64)) (w : k_M) (a1 : Int32) (a2 : Int64) (a4 : Int32) (a5 : Int32) : Option (k_M × Int64) :=
  k_lt (a5 + 1) fun x118 => K32 w a1 a2 a4 x118
def f_X9_tearAndBrake_116 (K32 : k_M → Int32 → Int64 → Int32 → Int32 → Option (k_M × Int64)) (w : k_M) (a1 : Int32) (a4 : Int32) (a5 : Int32) (as0 : Int64) (as1 : Int64) : Option (k_M × Int64) :=
  k_lt ((as1 + as0)) fun x117 => f_X9_tearAndBrake_118 K32 w a1 x117 a4 a5
def f_X9_tearAndBrake_100 (K32 : k_M → Int32 → Int64 → Int32 → Int32 → Option (k_M × Int64)) (w : k_M) (a1 : Int32) (a2 : Int64) (a4 : Int32) (a5 : Int32) (q6 : Nat) (a7 : Int64) : Option (k_M × Int64) :=
  (if (w q6 5) = 1 then f_X9_tearAndBrake_116 K32 w a1 a4 a5 a7 a2 else f_X9_tearAndBrake_116 K32 w a1 a4 a5 (0 : Int64) a2)
def f_X9_tearAndBrake_32_b (K32 : k_M → Int32 → Int64 → Int32 → Int32 → Option (k_M × Int64)) (w : k_M) (a1 : Int32) (a2 : Int64) (a4 : Int32) (a5 : Int32) : Option (k_M × Int64) :=
  (if a4 ≤ a5 then some (w, a2) else k_bd (f_X9_chuteAt w a5) fun r42 => k_ck (r42 = 2 ∨ (15 ≤ r42 ∧ r42 < 23)) ((if (w r42 5) = 1 then k_bd (f_X0_pull w r42 a1 (w 0 1)) fun r63 => k_bd (f_X0_linesThatTear w r42 r63 (w 0 5) (w 0 4)) fun r80 => (if r80 ≤ 0 then f_X9_tearAndBrake_100 K32 w a1 a2 a4 a5 r42 r63 else k_bd (f_X9_tear w r42 a5 r80) fun r97 => f_X9_tearAndBrake_100 K32 r97 a1 a2 a4 a5 r42 r63) else f_X9_tearAndBrake_118 K32 w a1 a2 a4 a5)))
def f_X9_tearAndBrake_32 : Nat → k_M → Int32 → Int64 → Int32 → Int32 → Option (k_M × Int64)
  | 0 => fun _ _ _ _ _ => none
  | n + 1 => fun w a1 a2 a4 a5 => f_X9_tearAndBrake_32_b (f_X9_tearAndBrake_32 n) w a1 a2 a4 a5
def f_X9_tearAndBrake (w : k_M) (a1 : Int32) : Option (k_M × Int64) :=
  k_lt ((((((2 : Int64) * a1.toInt64) * ((w 0 1).toInt64)) * ((w 0 1).toInt64)) / (10000 : Int64))) fun x22 => k_bd (f_X9_chuteCount w) fun r24 => f_X9_tearAndBrake_32 k_N w a1 x22 r24 0
def f_X9_openChutes_29 (K9 : k_M → Int32 → Int32 → Int32 → Option Int32) (w : k_M) (a1 : Int32) (a2 : Int32) (a3 : Int32) : Option Int32 :=
  k_lt (a3 + 1) fun x29 => K9 w a1 a2 x29
def f_X9_openChutes_9_b (K9 : k_M → Int32 → Int32 → Int32 → Option Int32) (w : k_M) (a1 : Int32) (a2 : Int32) (a3 : Int32) : Option Int32 :=
  (if a2 ≤ a3 then some a1 else k_bd (f_X9_chuteAt w a3) fun r16 => k_ck (r16 = 2 ∨ (15 ≤ r16 ∧ r16 < 23)) ((if (w r16 5) = 1 then k_lt (a1 + 1) fun x26 => f_X9_openChutes_29 K9 w x26 a2 a3 else f_X9_openChutes_29 K9 w a1 a2 a3)))
def f_X9_openChutes_9 : Nat → k_M → Int32 → Int32 → Int32 → Option Int32
  | 0 => fun _ _ _ _ => none
  | n + 1 => fun w a1 a2 a3 => f_X9_openChutes_9_b (f_X9_openChutes_9 n) w a1 a2 a3
def f_X9_openChutes (w : k_M) : Option Int32 :=
  k_bd (f_X9_chuteCount w) fun r3 => f_X9_openChutes_9 k_N w 0 r3 0
def f_X2_valueAtOrBelow_49 (K5 : k_M → Nat → Int32 → Int32 → Int32 → Int32 → Option Int32) (w : k_M) (tc : Nat) (a1 : Int32) (a2 : Int32) (a3 : Int32) (a4 : Int32) : Option Int32 :=
  k_lt (a4 + 1) fun x49 => K5 w tc a1 a2 a3 x49
def f_X2_valueAtOrBelow_46 (K5 : k_M → Nat → Int32 → Int32 → Int32 → Int32 → Option Int32) (w : k_M) (tc : Nat) (a1 : Int32) (a2 : Int32) (a4 : Int32) : Option Int32 :=
  f_X2_valueAtOrBelow_49 K5 w tc a1 a2 a4 a4
def f_X2_valueAtOrBelow_5_b (K5 : k_M → Nat → Int32 → Int32 → Int32 → Int32 → Option Int32) (w : k_M) (tc : Nat) (a1 : Int32) (a2 : Int32) (a3 : Int32) (a4 : Int32) : Option Int32 :=
  (if (w tc 2) ≤ a4 then (if a3 = (-1) then some a2 else k_ck (0 ≤ a3 ∧ a3 < 8) (some (w (tc + 2) a3.toNatClampNeg))) else k_ck (0 ≤ a4 ∧ a4 < 8) ((if a1 < (w (tc + 1) a4.toNatClampNeg) then f_X2_valueAtOrBelow_49 K5 w tc a1 a2 a3 a4 else (if a3 = (-1) then f_X2_valueAtOrBelow_46 K5 w tc a1 a2 a4 else k_ck (0 ≤ a4 ∧ a4 < 8) (k_ck (0 ≤ a3 ∧ a3 < 8) ((if (w (tc + 1) a4.toNatClampNeg) ≤ (w (tc + 1) a3.toNatClampNeg) then f_X2_valueAtOrBelow_49 K5 w tc a1 a2 a3 a4 else f_X2_valueAtOrBelow_46 K5 w tc a1 a2 a4)))))))
def f_X2_valueAtOrBelow_5 : Nat → k_M → Nat → Int32 → Int32 → Int32 → Int32 → Option Int32
  | 0 => fun _ _ _ _ _ _ => none
  | n + 1 => fun w tc a1 a2 a3 a4 => f_X2_valueAtOrBelow_5_b (f_X2_valueAtOrBelow_5 n) w tc a1 a2 a3 a4
def f_X2_valueAtOrBelow (w : k_M) (tc : Nat) (a1 : Int32) (a2 : Int32) : Option Int32 :=
  f_X2_valueAtOrBelow_5 k_N w tc a1 a2 (-1) 0
def f_X8_distanceTo (w : k_M) (a1 : Int32) (a2 : Int32) : Option Int32 :=
  k_ck (0 ≤ a1 ∧ a1 < 8) ((if (w 10 a1.toNatClampNeg) ≤ a2 then k_ck (0 ≤ a1 ∧ a1 < 8) ((if a2 ≤ (w 11 a1.toNatClampNeg) then some 0 else k_ck (0 ≤ a1 ∧ a1 < 8) (some (a2 - (w 11 a1.toNatClampNeg))))) else k_ck (0 ≤ a1 ∧ a1 < 8) (some ((w 10 a1.toNatClampNeg) - a2))))
def f_X8_firstWith_2_b (K2 : k_M → Int32 → Int32 → Option Int32) (w : k_M) (a1 : Int32) (a2 : Int32) : Option Int32 :=
  (if (w 9 3) ≤ a2 then some (-1) else k_bd (f_X8_distanceTo w a2 a1) fun r13 => (if r13 = 0 then some a2 else k_lt (a2 + 1) fun x21 => K2 w a1 x21))
def f_X8_firstWith_2 : Nat → k_M → Int32 → Int32 → Option Int32
  | 0 => fun _ _ _ => none
  | n + 1 => fun w a1 a2 => f_X8_firstWith_2_b (f_X8_firstWith_2 n) w a1 a2
def f_X8_firstWith (w : k_M) (a1 : Int32) : Option Int32 :=
  f_X8_firstWith_2 k_N w a1 0
def f_X9_landingResult (w : k_M) : Option Int32 :=
  k_bd (f_X9_hasLanded w) fun r1 => (if r1 = 0 then some 0 else k_bd (f_X8_firstWith w (w 0 2)) fun r17 => (if r17 = (-1) then some 3 else k_ck (0 ≤ r17 ∧ r17 < 8) ((if (w 12 r17.toNatClampNeg) < (w 0 1) then some 2 else some 1))))
def f_X9_passSecond_211 (w : k_M) : Option k_M :=
  k_lt (k_up w 0 6 ((w 0 6) + 1)) fun w218 => some w218
def f_X9_passSecond_151 (w : k_M) : Option k_M :=
  k_lt ((k_mini (w 0 1) (w 0 0))) fun x162 => k_lt (k_up w 0 0 ((w 0 0) - x162)) fun w172 => k_lt (k_up w172 0 8 ((w172 0 8) + x162)) fun w183 => k_bd (f_X9_hasLanded w183) fun r187 => (if r187 = 0 then f_X9_passSecond_211 w183 else k_bd (f_X9_landingResult w183) fun r205 => k_bd (f_X1_record w183 (w183 0 6) 6 (-1) r205) fun r208 => f_X9_passSecond_211 r208)
def f_X9_passSecond_16 (w : k_M) (a1 : Int32) : Option k_M :=
  k_bd (f_X9_tearAndBrake w a1) fun r18 => k_ck (¬ ((r18.1 0 3).toInt64) = 0) (k_lt (((((r18.1 0 1) + 10).toInt64) - (r18.2 / ((r18.1 0 3).toInt64))).toInt32) fun x39 => k_lt (k_up r18.1 0 1 (k_maxi (k_maxi x39 ((r18.1 0 1) / 2)) 1)) fun w57 => k_lt ((((((w57 0 1).toInt64) * ((w57 0 1).toInt64)) * a1.toInt64) / (100000 : Int64)).toInt32) fun x79 => k_lt (k_up w57 0 9 ((w57 0 9) + x79)) fun w89 => k_lt (k_up w89 0 4 (k_mini (k_maxi (((w89 0 4) + x79) - (w89 0 7)) 0) 999)) fun w115 => k_bd (f_X9_openChutes w115) fun r119 => (if r119 ≤ 0 then f_X9_passSecond_151 w115 else k_bd (f_X2_valueAtOrBelow w115 6 (w115 0 0) 0) fun r139 => k_lt (k_up w115 0 2 ((w115 0 2) + (r139 + (w115 0 5)))) fun w148 => f_X9_passSecond_151 w148))
def f_X9_passSecond (w : k_M) : Option k_M :=
  k_bd (f_X9_air w) fun r1 => k_bd (f_X9_asksForBrakes w) fun r6 => (if r6 = 0 then f_X9_passSecond_16 w r1 else k_bd (f_X9_openWhatMay w) fun r13 => f_X9_passSecond_16 r13 r1)
def f_X9_passUntil_2_b (K2 : k_M → Int32 → Int32 → Int32 → Option (k_M × Int32)) (w : k_M) (a1 : Int32) (a2 : Int32) (a3 : Int32) : Option (k_M × Int32) :=
  (if (w 0 0) ≤ a1 then some (w, a3) else (if a2 ≤ a3 then some (w, a3) else k_bd (f_X9_passSecond w) fun r16 => k_lt (a3 + 1) fun x19 => K2 r16 a1 a2 x19))
def f_X9_passUntil_2 : Nat → k_M → Int32 → Int32 → Int32 → Option (k_M × Int32)
  | 0 => fun _ _ _ _ => none
  | n + 1 => fun w a1 a2 a3 => f_X9_passUntil_2_b (f_X9_passUntil_2 n) w a1 a2 a3
def f_X9_passUntil (w : k_M) (a1 : Int32) (a2 : Int32) : Option (k_M × Int32) :=
  f_X9_passUntil_2 k_N w a1 a2 0
def f_X10_refuse (u : k_U) (a1 : Int32) : Option (k_U × Int32) :=
  k_ck (0 ≤ a1 ∧ a1 < 10) (k_ck (0 ≤ a1 ∧ a1 < 10) (k_lt (k_uc u 0 (k_up (u 0) 3 a1.toNatClampNeg ((u 0 3 a1.toNatClampNeg) + 1))) fun u9 => some (u9, (-a1))))
def f_X10_tick_12 (u : k_U) (a1 : Int32) : Option (k_U × (Int32 ⊕ Nat)) :=
  some (u, Sum.inr 1)
def f_X10_tick (u : k_U) (a1 : Int32) : Option (k_U × (Int32 ⊕ Nat)) :=
  (if a1 < 1 then f_X10_tick_12 u a1 else (if a1 ≤ 200 then k_bd (f_X9_hasLanded (u 10)) fun r27 => (if r27 = 0 then k_bd (f_X10_beginAct u) fun r40 => k_bd (f_X9_passUntil (r40 10) 0 a1) fun r49 => k_lt (k_uc r40 10 r49.1) fun u49 => some (u49, Sum.inl r49.2) else k_bd (f_X10_refuse u 1) fun r35 => some (r35.1, Sum.inl r35.2)) else f_X10_tick_12 u a1))
def f_X10_fallTo_11 (u : k_U) (a1 : Int32) : Option (k_U × (Int32 ⊕ Nat)) :=
  some (u, Sum.inr 1)
def f_X10_fallTo (u : k_U) (a1 : Int32) : Option (k_U × (Int32 ⊕ Nat)) :=
  (if a1 < 0 then f_X10_fallTo_11 u a1 else (if a1 ≤ 30000 then k_bd (f_X9_hasLanded (u 10)) fun r26 => (if r26 = 0 then (if a1 < (u 10 0 0) then k_bd (f_X10_beginAct u) fun r56 => k_bd (f_X9_passUntil (r56 10) a1 3000) fun r67 => k_lt (k_uc r56 10 r67.1) fun u67 => some (u67, Sum.inl r67.2) else k_bd (f_X10_refuse u 2) fun r51 => some (r51.1, Sum.inl r51.2)) else k_bd (f_X10_refuse u 1) fun r34 => some (r34.1, Sum.inl r34.2)) else f_X10_fallTo_11 u a1))
def f_X10_open (u : k_U) (a1 : Int32) : Option (k_U × (Int32 ⊕ Nat)) :=
  k_bd (f_X9_hasLayer (u 10) a1) fun r5 => (if r5 = 0 then some (u, Sum.inr 2) else k_bd (f_X9_hasLanded (u 10)) fun r26 => (if r26 = 0 then k_bd (f_X9_chuteAt (u 10) a1) fun r43 => k_ck (r43 = 2 ∨ (15 ≤ r43 ∧ r43 < 23)) ((if (u 10 r43 5) = 0 then (if (u 10 0 0) ≤ (u 10 r43 3) then (if (u 10 0 1) ≤ (u 10 r43 4) then k_bd (f_X10_beginAct u) fun r101 => k_bd (f_X9_openLayer (r101 10) a1) fun r109 => k_lt (k_uc r101 10 r109) fun u109 => some (u109, Sum.inl (u109 10 r43 5)) else k_bd (f_X10_refuse u 5) fun r96 => some (r96.1, Sum.inl r96.2)) else k_bd (f_X10_refuse u 4) fun r76 => some (r76.1, Sum.inl r76.2)) else k_bd (f_X10_refuse u 3) fun r56 => some (r56.1, Sum.inl r56.2))) else k_bd (f_X10_refuse u 1) fun r34 => some (r34.1, Sum.inl r34.2)))
def f_X10_openReserve_39 (u : k_U) : Option (k_U × Int32) :=
  k_bd (f_X10_refuse u 3) fun r41 => some (r41.1, r41.2)
def f_X10_openReserve (u : k_U) : Option (k_U × Int32) :=
  k_bd (f_X9_hasLanded (u 10)) fun r4 => (if r4 = 0 then (if (u 10 0 11) = 0 then f_X10_openReserve_39 u else (if (u 10 2 5) = 0 then (if (u 10 0 0) ≤ (u 10 2 3) then k_bd (f_X9_failedLayers (u 10)) fun r75 => (if (u 10 2 4) ≤ r75 then k_bd (f_X9_firstLayerThatMayOpen (u 10)) fun r104 => (if r104 = (-1) then k_bd (f_X10_beginAct u) fun r119 => k_bd (f_X9_openTheReserve (r119 10) r75) fun r127 => k_lt (k_uc r119 10 r127) fun u127 => some (u127, r75) else k_bd (f_X10_refuse u 7) fun r114 => some (r114.1, r114.2)) else k_bd (f_X10_refuse u 6) fun r96 => some (r96.1, r96.2)) else k_bd (f_X10_refuse u 4) fun r67 => some (r67.1, r67.2)) else f_X10_openReserve_39 u)) else k_bd (f_X10_refuse u 1) fun r12 => some (r12.1, r12.2))
def f_X9_hasChute (w : k_M) (a1 : Int32) : Option Int32 :=
  (if a1 < 0 then some 0 else k_bd (f_X9_chuteCount w) fun r6 => (if r6 ≤ a1 then some 0 else some 1))
def f_X9_cutAway (w : k_M) (a1 : Int32) : Option k_M :=
  k_bd (f_X9_chuteAt w a1) fun r2 => k_ck (r2 = 2 ∨ (15 ≤ r2 ∧ r2 < 23)) (k_lt (k_up w r2 5 4) fun w8 => k_bd (f_X0_linesThere w8 r2) fun r22 => k_bd (f_X1_record w8 (w8 0 6) 5 a1 r22) fun r25 => some r25)
def f_X10_cut (u : k_U) (a1 : Int32) : Option (k_U × (Int32 ⊕ Nat)) :=
  k_bd (f_X9_hasChute (u 10) a1) fun r5 => (if r5 = 0 then some (u, Sum.inr 2) else k_bd (f_X9_hasLanded (u 10)) fun r25 => (if r25 = 0 then k_bd (f_X9_chuteAt (u 10) a1) fun r42 => k_ck (r42 = 2 ∨ (15 ≤ r42 ∧ r42 < 23)) ((if (u 10 r42 5) = 1 then k_bd (f_X10_beginAct u) fun r60 => k_bd (f_X9_cutAway (r60 10) a1) fun r68 => k_lt (k_uc r60 10 r68) fun u68 => k_bd (f_X9_openChutes (u68 10)) fun r75 => some (u68, Sum.inl r75) else k_bd (f_X10_refuse u 8) fun r55 => some (r55.1, Sum.inl r55.2))) else k_bd (f_X10_refuse u 1) fun r33 => some (r33.1, Sum.inl r33.2)))
def f_X10_steer_12 (u : k_U) (a1 : Int32) : Option (k_U × (Int32 ⊕ Nat)) :=
  some (u, Sum.inr 1)
def f_X10_steer (u : k_U) (a1 : Int32) : Option (k_U × (Int32 ⊕ Nat)) :=
  (if a1 < (-9) then f_X10_steer_12 u a1 else (if a1 ≤ 9 then k_bd (f_X9_hasLanded (u 10)) fun r27 => (if r27 = 0 then k_bd (f_X9_openChutes (u 10)) fun r43 => (if r43 = 0 then k_bd (f_X10_refuse u 8) fun r52 => some (r52.1, Sum.inl r52.2) else k_bd (f_X10_beginAct u) fun r57 => k_lt (r57 10 0 5) fun x67 => k_lt (k_uc r57 10 (k_up (r57 10) 0 5 a1)) fun u73 => some (u73, Sum.inl (x67 + 9))) else k_bd (f_X10_refuse u 1) fun r35 => some (r35.1, Sum.inl r35.2)) else f_X10_steer_12 u a1))
def f_X10_play_191 (K43 : k_U → Int32 → Int32 → Option (k_U × Int32)) (u : k_U) (a2 : Int32) (a3 : Int32) : Option (k_U × Int32) :=
  K43 u a2 a3
def f_X10_play_183 (K43 : k_U → Int32 → Int32 → Option (k_U × Int32)) (u : k_U) (a2 : Int32) (as0 : Int32) : Option (k_U × Int32) :=
  (if as0 = 0 then k_lt (a2 + 1) fun x188 => f_X10_play_191 K43 u x188 as0 else f_X10_play_191 K43 u a2 as0)
def f_X10_play_173 (K43 : k_U → Int32 → Int32 → Option (k_U × Int32)) (u : k_U) (a2 : Int32) (a5 : Int32) : Option (k_U × Int32) :=
  (if 0 ≤ a5 then f_X10_play_183 K43 u a2 0 else f_X10_play_183 K43 u a2 1)
def f_X10_play_43_b (K43 : k_U → Int32 → Int32 → Option (k_U × Int32)) (u : k_U) (a2 : Int32) (a3 : Int32) : Option (k_U × Int32) :=
  (if (u 2 0 2) ≤ a2 then some (u, a2) else (if a3 = 0 then k_ck (0 ≤ a2 ∧ a2 < 40) (k_lt (u 2 2 a2.toNatClampNeg) fun x67 => k_ck (0 ≤ a2 ∧ a2 < 40) ((if (u 2 1 a2.toNatClampNeg) = 0 then k_bd (k_no (f_X10_tick u x67)) fun r115 => f_X10_play_173 K43 r115.1 a2 r115.2 else (if (u 2 1 a2.toNatClampNeg) = 1 then k_bd (k_no (f_X10_fallTo u x67)) fun r126 => f_X10_play_173 K43 r126.1 a2 r126.2 else (if (u 2 1 a2.toNatClampNeg) = 2 then k_bd (k_no (f_X10_open u x67)) fun r137 => f_X10_play_173 K43 r137.1 a2 r137.2 else (if (u 2 1 a2.toNatClampNeg) = 3 then k_bd (f_X10_openReserve u) fun r146 => f_X10_play_173 K43 r146.1 a2 r146.2 else (if (u 2 1 a2.toNatClampNeg) = 4 then k_bd (k_no (f_X10_cut u x67)) fun r157 => f_X10_play_173 K43 r157.1 a2 r157.2 else k_bd (k_no (f_X10_steer u x67)) fun r168 => f_X10_play_173 K43 r168.1 a2 r168.2))))))) else some (u, a2)))
def f_X10_play_43 : Nat → k_U → Int32 → Int32 → Option (k_U × Int32)
  | 0 => fun _ _ _ => none
  | n + 1 => fun u a2 a3 => f_X10_play_43_b (f_X10_play_43 n) u a2 a3
def f_X10_play (u : k_U) : Option (k_U × Int32) :=
  k_bd (f_X9_chuteCount (u 10)) fun r19 => k_bd (f_X5_readCommands u (u 10 0 10) r19) fun r22 => k_bd (f_X4_emptyText (r22.1 1)) fun r30 => k_lt (k_uc r22.1 1 r30) fun u30 => (if r22.2 = 0 then some (u30, (-1)) else f_X10_play_43 k_N u30 0 0)
def f_X10_errorCode (u : k_U) : Option Int32 :=
  some (u 1 0 3)
def f_X10_errorPosition (u : k_U) : Option Int32 :=
  some (u 1 0 4)
def f_X10_capsule (u : k_U) (a1 : Int32) : Option (Int32 ⊕ Nat) :=
  (if a1 = 0 then some (Sum.inl (u 10 0 0)) else (if a1 = 1 then some (Sum.inl (u 10 0 1)) else (if a1 = 2 then some (Sum.inl (u 10 0 2)) else (if a1 = 3 then some (Sum.inl (u 10 0 3)) else (if a1 = 4 then some (Sum.inl (u 10 0 4)) else (if a1 = 5 then some (Sum.inl (u 10 0 5)) else (if a1 = 6 then some (Sum.inl (u 10 0 6)) else (if a1 = 7 then k_bd (f_X9_air (u 10)) fun r112 => some (Sum.inl r112) else (if a1 = 8 then k_bd (f_X9_landingResult (u 10)) fun r120 => some (Sum.inl r120) else some (Sum.inr 1))))))))))
def f_X9_countLines_66 (K16 : k_M → Int32 → Int32 → Int32 → Int32 → Int32 → Int32 → Option Int32) (w : k_M) (a1 : Int32) (a2 : Int32) (a3 : Int32) (a4 : Int32) (a5 : Int32) (a6 : Int32) : Option Int32 :=
  k_lt (a6 + 1) fun x66 => K16 w a1 a2 a3 a4 a5 x66
def f_X9_countLines_16_b (K16 : k_M → Int32 → Int32 → Int32 → Int32 → Int32 → Int32 → Option Int32) (w : k_M) (a1 : Int32) (a2 : Int32) (a3 : Int32) (a4 : Int32) (a5 : Int32) (a6 : Int32) : Option Int32 :=
  (if a5 ≤ a6 then (if a1 = 10 then some a2 else (if a1 = 11 then some ((a2 - a3) - a4) else (if a1 = 12 then some a3 else some a4))) else k_bd (f_X9_chuteAt w a6) fun r26 => k_ck (r26 = 2 ∨ (15 ≤ r26 ∧ r26 < 23)) (k_lt ((a2 + (w r26 1))) fun x38 => k_lt ((a3 + (w r26 7))) fun x46 => (if (w r26 5) = 4 then k_bd (f_X0_linesThere w r26) fun r60 => k_lt ((a4 + r60)) fun x64 => f_X9_countLines_66 K16 w a1 x38 x46 x64 a5 a6 else f_X9_countLines_66 K16 w a1 x38 x46 a4 a5 a6)))
def f_X9_countLines_16 : Nat → k_M → Int32 → Int32 → Int32 → Int32 → Int32 → Int32 → Option Int32
  | 0 => fun _ _ _ _ _ _ _ => none
  | n + 1 => fun w a1 a2 a3 a4 a5 a6 => f_X9_countLines_16_b (f_X9_countLines_16 n) w a1 a2 a3 a4 a5 a6
def f_X9_countLines (w : k_M) (a1 : Int32) : Option Int32 :=
  k_bd (f_X9_chuteCount w) fun r8 => f_X9_countLines_16 k_N w a1 0 0 0 r8 0
def f_X10_size_10 (u : k_U) (a1 : Int32) : Option (Int32 ⊕ Nat) :=
  some (Sum.inr 1)
def f_X10_size (u : k_U) (a1 : Int32) : Option (Int32 ⊕ Nat) :=
  (if a1 < 0 then f_X10_size_10 u a1 else (if a1 ≤ 15 then (if a1 = 0 then some (Sum.inl (u 10 0 10)) else (if a1 = 1 then (if (u 10 0 11) = 0 then some (Sum.inl 0) else some (Sum.inl 1)) else (if a1 = 2 then some (Sum.inl (u 10 3 2)) else (if a1 = 3 then some (Sum.inl (u 10 6 2)) else (if a1 = 4 then some (Sum.inl (u 10 9 3)) else (if a1 = 5 then some (Sum.inl (u 10 0 7)) else (if a1 = 6 then k_bd (f_X9_openChutes (u 10)) fun r169 => some (Sum.inl r169) else (if a1 = 7 then k_bd (f_X9_failedLayers (u 10)) fun r177 => some (Sum.inl r177) else (if a1 = 8 then some (Sum.inl (u 10 13 2)) else (if a1 = 9 then some (Sum.inl (u 4 0 2)) else (if a1 = 10 then k_bd (f_X9_countLines (u 10) a1) fun r221 => some (Sum.inl r221) else (if a1 = 11 then k_bd (f_X9_countLines (u 10) a1) fun r221 => some (Sum.inl r221) else (if a1 = 12 then k_bd (f_X9_countLines (u 10) a1) fun r221 => some (Sum.inl r221) else (if a1 = 13 then k_bd (f_X9_countLines (u 10) a1) fun r221 => some (Sum.inl r221) else (if a1 = 14 then some (Sum.inl (u 10 0 8)) else (if a1 = 15 then some (Sum.inl (u 10 0 9)) else k_bd (f_X9_countLines (u 10) a1) fun r221 => some (Sum.inl r221))))))))))))))))) else f_X10_size_10 u a1))
def f_X10_chute (u : k_U) (a1 : Int32) (a2 : Int32) : Option (Int32 ⊕ Nat) :=
  k_bd (f_X9_hasChute (u 10) a1) fun r5 => (if r5 = 0 then some (Sum.inr 2) else k_bd (f_X9_chuteAt (u 10) a1) fun r26 => k_ck (r26 = 2 ∨ (15 ≤ r26 ∧ r26 < 23)) ((if a2 = 0 then some (Sum.inl (u 10 r26 0)) else (if a2 = 1 then some (Sum.inl (u 10 r26 1)) else (if a2 = 2 then some (Sum.inl (u 10 r26 2)) else (if a2 = 3 then some (Sum.inl (u 10 r26 3)) else (if a2 = 4 then some (Sum.inl (u 10 r26 4)) else (if a2 = 5 then some (Sum.inl (u 10 r26 5)) else (if a2 = 6 then (if (u 10 r26 5) = 4 then some (Sum.inl 0) else k_bd (f_X0_linesThere (u 10) r26) fun r119 => some (Sum.inl r119)) else (if a2 = 7 then (if (u 10 r26 6) = 0 then some (Sum.inl 0) else some (Sum.inl 1)) else some (Sum.inr 1)))))))))))
def f_X10_line_42 (u : k_U) (a1 : Int32) (a2 : Int32) : Option (Int32 ⊕ Nat) :=
  some (Sum.inr 2)
def f_X10_line (u : k_U) (a1 : Int32) (a2 : Int32) : Option (Int32 ⊕ Nat) :=
  k_bd (f_X9_hasChute (u 10) a1) fun r5 => (if r5 = 0 then some (Sum.inr 2) else k_bd (f_X9_chuteAt (u 10) a1) fun r26 => k_ck (r26 = 2 ∨ (15 ≤ r26 ∧ r26 < 23)) ((if a2 < 0 then f_X10_line_42 u a1 a2 else (if a2 < (u 10 r26 1) then (if (u 10 r26 7) ≤ a2 then k_bd (f_X0_strengthOf (u 10) r26 a2) fun r67 => some (Sum.inl r67) else some (Sum.inl (-1))) else f_X10_line_42 u a1 a2))))
def f_X10_targetAt_11 (u : k_U) (a1 : Int32) : Option (Int32 ⊕ Nat) :=
  some (Sum.inr 1)
def f_X10_targetAt (u : k_U) (a1 : Int32) : Option (Int32 ⊕ Nat) :=
  (if a1 < 0 then f_X10_targetAt_11 u a1 else (if a1 ≤ 30000 then k_bd (f_X2_valueAtOrAbove (u 10) 3 a1 (-1)) fun r31 => some (Sum.inl r31) else f_X10_targetAt_11 u a1))
def f_X10_windAt_11 (u : k_U) (a1 : Int32) : Option (Int32 ⊕ Nat) :=
  some (Sum.inr 1)
def f_X10_windAt (u : k_U) (a1 : Int32) : Option (Int32 ⊕ Nat) :=
  (if a1 < 0 then f_X10_windAt_11 u a1 else (if a1 ≤ 30000 then k_bd (f_X2_valueAtOrBelow (u 10) 6 a1 0) fun r31 => some (Sum.inl r31) else f_X10_windAt_11 u a1))
def f_X8_has (w : k_M) (a1 : Int32) : Option Int32 :=
  (if a1 < 0 then some 0 else (if (w 9 3) ≤ a1 then some 0 else some 1))
def f_X10_spot (u : k_U) (a1 : Int32) (a2 : Int32) : Option (Int32 ⊕ Nat) :=
  k_bd (f_X8_has (u 10) a1) fun r8 => (if r8 = 0 then some (Sum.inr 2) else (if a2 = 0 then k_ck (0 ≤ a1 ∧ a1 < 8) (some (Sum.inl (u 10 10 a1.toNatClampNeg))) else (if a2 = 1 then k_ck (0 ≤ a1 ∧ a1 < 8) (some (Sum.inl (u 10 11 a1.toNatClampNeg))) else (if a2 = 2 then k_ck (0 ≤ a1 ∧ a1 < 8) (some (Sum.inl (u 10 12 a1.toNatClampNeg))) else some (Sum.inr 1)))))
def f_X1_partOf (w : k_M) (a1 : Int32) (a2 : Int32) : Option Int32 :=
  k_ck (0 ≤ (((((w 13 1) + a1) - ((w 13 1) + a1) / 30 * 30) * 4) + a2) ∧ (((((w 13 1) + a1) - ((w 13 1) + a1) / 30 * 30) * 4) + a2) < 120) (some (w 14 ((((((w 13 1) + a1) - ((w 13 1) + a1) / 30 * 30) * 4) + a2).toNatClampNeg)))
def f_X10_event_38 (u : k_U) (a1 : Int32) (a2 : Int32) : Option (Int32 ⊕ Nat) :=
  some (Sum.inr 1)
def f_X10_event_18 (u : k_U) (a1 : Int32) (a2 : Int32) : Option (Int32 ⊕ Nat) :=
  some (Sum.inr 3)
def f_X10_event (u : k_U) (a1 : Int32) (a2 : Int32) : Option (Int32 ⊕ Nat) :=
  (if a1 < 0 then f_X10_event_18 u a1 a2 else (if a1 < (u 10 13 2) then (if a2 < 0 then f_X10_event_38 u a1 a2 else (if a2 < 4 then k_bd (f_X1_partOf (u 10) a1 a2) fun r58 => some (Sum.inl r58) else f_X10_event_38 u a1 a2)) else f_X10_event_18 u a1 a2))
def f_X10_account_10 (u : k_U) (a1 : Int32) : Option (Int32 ⊕ Nat) :=
  some (Sum.inr 1)
def f_X10_account (u : k_U) (a1 : Int32) : Option (Int32 ⊕ Nat) :=
  (if a1 < 0 then f_X10_account_10 u a1 else (if a1 < 10 then k_ck (0 ≤ a1 ∧ a1 < 10) (some (Sum.inl (u 0 3 a1.toNatClampNeg))) else f_X10_account_10 u a1))
def f_X10_asks (u : k_U) : Option Int32 :=
  k_bd (f_X9_asksForBrakes (u 10)) fun r4 => k_ck (r4 = 0 ∨ r4 = 1) (some r4)
def f_X9_whyLayer (w : k_M) (a1 : Int32) : Option Int32 :=
  k_ck (0 ≤ a1 ∧ a1 < 8) ((if (w (15 + a1.toNatClampNeg) 5) = 1 then some 0 else (if (w (15 + a1.toNatClampNeg) 5) = 2 then some 1 else (if (w (15 + a1.toNatClampNeg) 5) = 3 then some 2 else (if (w (15 + a1.toNatClampNeg) 5) = 4 then some 3 else (if (w 0 0) ≤ (w (15 + a1.toNatClampNeg) 3) then (if (w 0 1) ≤ (w (15 + a1.toNatClampNeg) 4) then k_bd (f_X9_asksForBrakes w) fun r75 => (if r75 = 0 then some 6 else k_bd (f_X9_firstLayerThatMayOpen w) fun r85 => (if a1 ≤ r85 then some 8 else some 7)) else some 5) else some 4))))))
def f_X10_why (u : k_U) (a1 : Int32) : Option (Int32 ⊕ Nat) :=
  k_bd (f_X9_hasLayer (u 10) a1) fun r5 => (if r5 = 0 then some (Sum.inr 2) else k_bd (f_X9_whyLayer (u 10) a1) fun r27 => some (Sum.inl r27))
def f_X9_whyOfReserve (w : k_M) : Option Int32 :=
  (if (w 0 11) = 0 then some 1 else (if (w 2 5) = 1 then some 0 else (if (w 2 5) = 0 then (if (w 0 0) ≤ (w 2 3) then k_bd (f_X9_failedLayers w) fun r51 => (if (w 2 4) ≤ r51 then k_bd (f_X9_firstLayerThatMayOpen w) fun r67 => (if r67 = (-1) then k_bd (f_X9_asksForBrakes w) fun r77 => (if r77 = 0 then some 6 else some 7) else some 5) else some 4) else some 3) else some 2)))
def f_X10_whyReserve (u : k_U) : Option Int32 :=
  k_bd (f_X9_whyOfReserve (u 10)) fun r4 => some r4
def f_X10_loadOn (u : k_U) (a1 : Int32) : Option (Int32 ⊕ Nat) :=
  k_bd (f_X9_hasChute (u 10) a1) fun r5 => (if r5 = 0 then some (Sum.inr 2) else k_bd (f_X9_chuteAt (u 10) a1) fun r26 => k_ck (r26 = 2 ∨ (15 ≤ r26 ∧ r26 < 23)) ((if (u 10 r26 5) = 1 then k_bd (f_X9_air (u 10)) fun r45 => k_bd (f_X0_pull (u 10) r26 r45 (u 10 0 1)) fun r55 => k_bd (f_X0_loadOfOneLine (u 10) r26 r55 (u 10 0 5) (u 10 r26 7)) fun r72 => some (Sum.inl r72.toInt32) else some (Sum.inl 0))))
def f_X10_wouldTear (u : k_U) (a1 : Int32) : Option (Int32 ⊕ Nat) :=
  k_bd (f_X9_hasChute (u 10) a1) fun r5 => (if r5 = 0 then some (Sum.inr 2) else k_bd (f_X9_chuteAt (u 10) a1) fun r26 => k_ck (r26 = 2 ∨ (15 ≤ r26 ∧ r26 < 23)) ((if (u 10 r26 5) = 1 then k_bd (f_X9_air (u 10)) fun r45 => k_bd (f_X0_pull (u 10) r26 r45 (u 10 0 1)) fun r55 => k_bd (f_X0_linesThatTear (u 10) r26 r55 (u 10 0 5) (u 10 0 4)) fun r75 => some (Sum.inl r75) else some (Sum.inl 0))))
def f_X10_foretellLanding (u : k_U) : Option (k_U × Int32) :=
  k_bd (f_X9_copyFrom (u 11) (u 10)) fun r8 => k_lt (k_uc u 11 r8) fun u8 => k_bd (f_X9_passUntil (u8 11) 0 3000) fun r19 => k_lt (k_uc u8 11 r19.1) fun u19 => some (u19, r19.2)
def f_X10_landIn (u : k_U) : Option (k_U × Int32) :=
  k_bd (f_X10_foretellLanding u) fun r1 => k_bd (f_X9_hasLanded (r1.1 11)) fun r9 => (if r9 = 0 then some (r1.1, (-1)) else some (r1.1, r1.2))
def f_X10_landAt (u : k_U) : Option (k_U × (Int32 ⊕ Nat)) :=
  k_bd (f_X10_foretellLanding u) fun r1 => k_bd (f_X9_hasLanded (r1.1 11)) fun r9 => (if r9 = 0 then some (r1.1, Sum.inr 3) else some (r1.1, Sum.inl (r1.1 11 0 2)))
def f_X10_landSpeed (u : k_U) : Option (k_U × Int32) :=
  k_bd (f_X10_foretellLanding u) fun r1 => k_bd (f_X9_hasLanded (r1.1 11)) fun r9 => (if r9 = 0 then some (r1.1, (-1)) else some (r1.1, r1.1 11 0 1))
def f_X10_landResult (u : k_U) : Option (k_U × Int32) :=
  k_bd (f_X10_foretellLanding u) fun r1 => k_bd (f_X9_hasLanded (r1.1 11)) fun r9 => (if r9 = 0 then some (r1.1, (-1)) else k_bd (f_X9_landingResult (r1.1 11)) fun r19 => some (r1.1, r19))
def f_X10_failsIn_80 (u : k_U) (a1 : Int32) (q2 : Nat) (a3 : Int32) : Option (k_U × (Int32 ⊕ Nat)) :=
  k_bd (f_X0_hasFailed (u 11) q2) fun r81 => (if r81 = 0 then some (u, Sum.inl (-1)) else some (u, Sum.inl a3))
def f_X10_failsIn_43_b (K43 : k_U → Int32 → Nat → Int32 → Option (k_U × (Int32 ⊕ Nat))) (u : k_U) (a1 : Int32) (q2 : Nat) (a3 : Int32) : Option (k_U × (Int32 ⊕ Nat)) :=
  k_bd (f_X0_hasFailed (u 11) q2) fun r44 => (if r44 = 0 then k_bd (f_X9_hasLanded (u 11)) fun r54 => (if r54 = 0 then (if 3000 ≤ a3 then f_X10_failsIn_80 u a1 q2 a3 else k_bd (f_X9_passSecond (u 11)) fun r71 => k_lt (k_uc u 11 r71) fun u71 => k_lt (a3 + 1) fun x74 => K43 u71 a1 q2 x74) else f_X10_failsIn_80 u a1 q2 a3) else f_X10_failsIn_80 u a1 q2 a3)
def f_X10_failsIn_43 : Nat → k_U → Int32 → Nat → Int32 → Option (k_U × (Int32 ⊕ Nat))
  | 0 => fun _ _ _ _ => none
  | n + 1 => fun u a1 q2 a3 => f_X10_failsIn_43_b (f_X10_failsIn_43 n) u a1 q2 a3
def f_X10_failsIn (u : k_U) (a1 : Int32) : Option (k_U × (Int32 ⊕ Nat)) :=
  k_bd (f_X9_hasChute (u 10) a1) fun r5 => (if r5 = 0 then some (u, Sum.inr 2) else k_bd (f_X9_copyFrom (u 11) (u 10)) fun r29 => k_lt (k_uc u 11 r29) fun u29 => k_bd (f_X9_chuteAt (u29 11) a1) fun r37 => k_ck (r37 = 2 ∨ (15 ≤ r37 ∧ r37 < 23)) (f_X10_failsIn_43 k_N u29 a1 r37 0))
def f_X10_reserveIn_71 (u : k_U) (a2 : Int32) : Option (k_U × Int32) :=
  (if (u 11 2 5) = 1 then some (u, a2) else some (u, (-1)))
def f_X10_reserveIn_33_b (K33 : k_U → Int32 → Option (k_U × Int32)) (u : k_U) (a2 : Int32) : Option (k_U × Int32) :=
  (if (u 11 2 5) = 1 then f_X10_reserveIn_71 u a2 else k_bd (f_X9_hasLanded (u 11)) fun r45 => (if r45 = 0 then (if 3000 ≤ a2 then f_X10_reserveIn_71 u a2 else k_bd (f_X9_passSecond (u 11)) fun r62 => k_lt (k_uc u 11 r62) fun u62 => k_lt (a2 + 1) fun x65 => K33 u62 x65) else f_X10_reserveIn_71 u a2))
def f_X10_reserveIn_33 : Nat → k_U → Int32 → Option (k_U × Int32)
  | 0 => fun _ _ => none
  | n + 1 => fun u a2 => f_X10_reserveIn_33_b (f_X10_reserveIn_33 n) u a2
def f_X10_reserveIn (u : k_U) : Option (k_U × Int32) :=
  (if (u 10 0 11) = 0 then some (u, (-1)) else k_bd (f_X9_copyFrom (u 11) (u 10)) fun r20 => k_lt (k_uc u 11 r20) fun u20 => f_X10_reserveIn_33 k_N u20 0)
def f_X10_hottest_21_b (K21 : k_U → Int32 → Int32 → Option (k_U × Int32)) (u : k_U) (a1 : Int32) (a2 : Int32) : Option (k_U × Int32) :=
  (if 3000 ≤ a2 then some (u, a1) else k_bd (f_X9_hasLanded (u 11)) fun r32 => (if r32 = 0 then k_bd (f_X9_passSecond (u 11)) fun r42 => k_lt (k_uc u 11 r42) fun u42 => k_lt ((k_maxi a1 (u42 11 0 4))) fun x56 => k_lt (a2 + 1) fun x57 => K21 u42 x56 x57 else some (u, a1)))
def f_X10_hottest_21 : Nat → k_U → Int32 → Int32 → Option (k_U × Int32)
  | 0 => fun _ _ _ => none
  | n + 1 => fun u a1 a2 => f_X10_hottest_21_b (f_X10_hottest_21 n) u a1 a2
def f_X10_hottest (u : k_U) : Option (k_U × Int32) :=
  k_bd (f_X9_copyFrom (u 11) (u 10)) fun r8 => k_lt (k_uc u 11 r8) fun u8 => k_lt (u8 11 0 4) fun x18 => f_X10_hottest_21 k_N u8 x18 0
def f_X10_foretellLandingWithSlip (u : k_U) (a1 : Int32) : Option k_U :=
  k_bd (f_X9_copyFrom (u 11) (u 10)) fun r8 => k_lt (k_uc u 11 r8) fun u8 => k_lt (k_uc u8 11 (k_up (u8 11) 0 5 a1)) fun u16 => k_bd (f_X9_passUntil (u16 11) 0 3000) fun r27 => k_lt (k_uc u16 11 r27.1) fun u27 => some u27
def f_X10_bestSlip_118 (K32 : k_U → Int32 → Int32 → Int32 → Int32 → Option (k_U × (Int32 ⊕ Nat))) (u : k_U) (a1 : Int32) (a2 : Int32) (a3 : Int32) (a4 : Int32) : Option (k_U × (Int32 ⊕ Nat)) :=
  k_lt (a4 + 1) fun x118 => K32 u a1 a2 a3 x118
def f_X10_bestSlip_109 (K32 : k_U → Int32 → Int32 → Int32 → Int32 → Option (k_U × (Int32 ⊕ Nat))) (u : k_U) (a1 : Int32) (a4 : Int32) (a5 : Int32) (a6 : Int32) : Option (k_U × (Int32 ⊕ Nat)) :=
  k_lt ((a5 + 9)) fun x114 => f_X10_bestSlip_118 K32 u a1 x114 a6 a4
def f_X10_bestSlip_60 (K32 : k_U → Int32 → Int32 → Int32 → Int32 → Option (k_U × (Int32 ⊕ Nat))) (u : k_U) (a1 : Int32) (a2 : Int32) (a3 : Int32) (a4 : Int32) (as0 : Int32) : Option (k_U × (Int32 ⊕ Nat)) :=
  k_bd (f_X10_foretellLandingWithSlip u as0) fun r65 => k_bd (f_X8_distanceTo (r65 10) a1 (r65 11 0 2)) fun r83 => k_bd (f_X9_hasLanded (r65 11)) fun r92 => (if r92 = 0 then f_X10_bestSlip_118 K32 r65 a1 a2 a3 a4 else (if a2 = (-1) then f_X10_bestSlip_109 K32 r65 a1 a4 as0 r83 else (if a3 ≤ r83 then f_X10_bestSlip_118 K32 r65 a1 a2 a3 a4 else f_X10_bestSlip_109 K32 r65 a1 a4 as0 r83)))
def f_X10_bestSlip_32_b (K32 : k_U → Int32 → Int32 → Int32 → Int32 → Option (k_U × (Int32 ⊕ Nat))) (u : k_U) (a1 : Int32) (a2 : Int32) (a3 : Int32) (a4 : Int32) : Option (k_U × (Int32 ⊕ Nat)) :=
  (if 18 < a4 then some (u, Sum.inl a2) else (if (a4 - a4 / 2 * 2) = 0 then f_X10_bestSlip_60 K32 u a1 a2 a3 a4 (a4 / 2) else f_X10_bestSlip_60 K32 u a1 a2 a3 a4 ((-(a4 + 1)) / 2)))
def f_X10_bestSlip_32 : Nat → k_U → Int32 → Int32 → Int32 → Int32 → Option (k_U × (Int32 ⊕ Nat))
  | 0 => fun _ _ _ _ _ => none
  | n + 1 => fun u a1 a2 a3 a4 => f_X10_bestSlip_32_b (f_X10_bestSlip_32 n) u a1 a2 a3 a4
def f_X10_bestSlip (u : k_U) (a1 : Int32) : Option (k_U × (Int32 ⊕ Nat)) :=
  k_bd (f_X8_has (u 10) a1) fun r8 => (if r8 = 0 then some (u, Sum.inr 2) else f_X10_bestSlip_32 k_N u a1 (-1) 0 0)
def f_X8_allWith_27 (K4 : k_M → Int32 → Int32 → Int32 → Option Int32) (w : k_M) (a1 : Int32) (a2 : Int32) (a3 : Int32) : Option Int32 :=
  k_lt (a3 + 1) fun x27 => K4 w a1 a2 x27
def f_X8_allWith_4_b (K4 : k_M → Int32 → Int32 → Int32 → Option Int32) (w : k_M) (a1 : Int32) (a2 : Int32) (a3 : Int32) : Option Int32 :=
  (if (w 9 3) ≤ a3 then some a2 else k_bd (f_X8_distanceTo w a3 a1) fun r15 => (if r15 = 0 then k_lt ((a2 ||| (1 <<< (a3 &&& 31)))) fun x26 => f_X8_allWith_27 K4 w a1 x26 a3 else f_X8_allWith_27 K4 w a1 a2 a3))
def f_X8_allWith_4 : Nat → k_M → Int32 → Int32 → Int32 → Option Int32
  | 0 => fun _ _ _ _ => none
  | n + 1 => fun w a1 a2 a3 => f_X8_allWith_4_b (f_X8_allWith_4 n) w a1 a2 a3
def f_X8_allWith (w : k_M) (a1 : Int32) : Option Int32 :=
  f_X8_allWith_4 k_N w a1 0 0
def f_X10_reachable_46 (K5 : k_U → Int32 → Int32 → Option (k_U × Int32)) (u : k_U) (a1 : Int32) (a2 : Int32) : Option (k_U × Int32) :=
  k_lt (a2 + 1) fun x46 => K5 u a1 x46
def f_X10_reachable_5_b (K5 : k_U → Int32 → Int32 → Option (k_U × Int32)) (u : k_U) (a1 : Int32) (a2 : Int32) : Option (k_U × Int32) :=
  (if 9 < a2 then some (u, a1) else k_bd (f_X10_foretellLandingWithSlip u a2) fun r13 => k_bd (f_X9_hasLanded (r13 11)) fun r20 => (if r20 = 0 then f_X10_reachable_46 K5 r13 a1 a2 else k_bd (f_X8_allWith (r13 10) (r13 11 0 2)) fun r41 => k_lt ((a1 ||| r41)) fun x45 => f_X10_reachable_46 K5 r13 x45 a2))
def f_X10_reachable_5 : Nat → k_U → Int32 → Int32 → Option (k_U × Int32)
  | 0 => fun _ _ _ => none
  | n + 1 => fun u a1 a2 => f_X10_reachable_5_b (f_X10_reachable_5 n) u a1 a2
def f_X10_reachable (u : k_U) : Option (k_U × Int32) :=
  f_X10_reachable_5 k_N u 0 (-9)
def f_X2_hasPlaceFor (w : k_M) (tc : Nat) (a1 : Int32) : Option Int32 :=
  (if (w tc 2) < 8 then some 1 else k_bd (f_X2_placeOf w tc a1) fun r11 => (if r11 = (-1) then some 0 else some 1))
def f_X10_setTarget_35 (u : k_U) (a1 : Int32) (a2 : Int32) : Option (k_U × (Int32 ⊕ Nat)) :=
  some (u, Sum.inr 1)
def f_X10_setTarget_12 (u : k_U) (a1 : Int32) (a2 : Int32) : Option (k_U × (Int32 ⊕ Nat)) :=
  some (u, Sum.inr 1)
def f_X10_setTarget (u : k_U) (a1 : Int32) (a2 : Int32) : Option (k_U × (Int32 ⊕ Nat)) :=
  (if a1 < 1 then f_X10_setTarget_12 u a1 a2 else (if a1 ≤ 30000 then (if a2 < 1 then f_X10_setTarget_35 u a1 a2 else (if a2 ≤ 400 then k_bd (f_X2_hasPlaceFor (u 10) 3 a1) fun r54 => (if r54 = 0 then k_bd (f_X10_refuse u 9) fun r63 => some (r63.1, Sum.inl r63.2) else k_bd (f_X10_beginAct u) fun r68 => k_bd (f_X2_put (r68 10) 3 a1 a2) fun r80 => k_lt (k_uc r68 10 r80) fun u80 => some (u80, Sum.inl (u80 10 3 2))) else f_X10_setTarget_35 u a1 a2)) else f_X10_setTarget_12 u a1 a2))
def f_X9_packedJammedLayers_39 (K4 : k_M → Int32 → Int32 → Option Int32) (w : k_M) (a1 : Int32) (a2 : Int32) : Option Int32 :=
  k_lt (a2 + 1) fun x39 => K4 w a1 x39
def f_X9_packedJammedLayers_4_b (K4 : k_M → Int32 → Int32 → Option Int32) (w : k_M) (a1 : Int32) (a2 : Int32) : Option Int32 :=
  (if (w 0 10) ≤ a2 then some a1 else k_ck (0 ≤ a2 ∧ a2 < 8) ((if (w (15 + a2.toNatClampNeg) 5) = 0 then k_ck (0 ≤ a2 ∧ a2 < 8) ((if (w (15 + a2.toNatClampNeg) 6) = 0 then f_X9_packedJammedLayers_39 K4 w a1 a2 else k_lt (a1 + 1) fun x36 => f_X9_packedJammedLayers_39 K4 w x36 a2)) else f_X9_packedJammedLayers_39 K4 w a1 a2)))
def f_X9_packedJammedLayers_4 : Nat → k_M → Int32 → Int32 → Option Int32
  | 0 => fun _ _ _ => none
  | n + 1 => fun w a1 a2 => f_X9_packedJammedLayers_4_b (f_X9_packedJammedLayers_4 n) w a1 a2
def f_X9_packedJammedLayers (w : k_M) : Option Int32 :=
  f_X9_packedJammedLayers_4 k_N w 0 0
def f_X10_jam (u : k_U) (a1 : Int32) (a2 : Int32) : Option (k_U × (Int32 ⊕ Nat)) :=
  k_bd (f_X9_hasLayer (u 10) a1) fun r5 => (if r5 = 0 then some (u, Sum.inr 2) else k_bd (f_X9_chuteAt (u 10) a1) fun r27 => k_ck (r27 = 2 ∨ (15 ≤ r27 ∧ r27 < 23)) ((if (u 10 r27 5) = 0 then k_bd (f_X10_beginAct u) fun r45 => k_ck (a2 = 0 ∨ a2 = 1) (k_lt (k_uc r45 10 (k_up (r45 10) r27 6 a2)) fun u50 => k_bd (f_X9_packedJammedLayers (u50 10)) fun r57 => some (u50, Sum.inl r57)) else k_bd (f_X10_refuse u 3) fun r40 => some (r40.1, Sum.inl r40.2))))
def f_X7_wipe (w : k_M) : Option k_M :=
  k_lt (k_up w 0 1 0) fun w2 => some w2
def f_X7_put (w : k_M) (a1 : Int32) : Option k_M :=
  (if 64 ≤ (w 0 1) then some w else k_ck (0 ≤ (w 0 1) ∧ (w 0 1) < 64) (k_lt (k_up w 1 ((w 0 1).toNatClampNeg) a1) fun w18 => k_lt (k_up w18 0 1 ((w18 0 1) + 1)) fun w26 => some w26))
def f_X0_letter (w : k_M) (q : Nat) : Option Int32 :=
  (if (w q 5) = 0 then some 80 else (if (w q 5) = 1 then some 79 else (if (w q 5) = 2 then some 84 else (if (w q 5) = 3 then some 74 else some 67))))
def f_X7_putNumber_21 (w : k_M) (a1 : Int32) : Option k_M :=
  k_bd (f_X7_put w (((48 + (a1 - a1 / 10 * 10)).toUInt32 % 65536).toInt32)) fun r30 => some r30
def f_X7_putNumber (w : k_M) (a1 : Int32) : Option k_M :=
  (if a1 < 10 then f_X7_putNumber_21 w a1 else k_bd (f_X7_put w (((48 + ((a1 / 10) - (a1 / 10) / 10 * 10)).toUInt32 % 65536).toInt32)) fun r18 => f_X7_putNumber_21 r18 a1)
def f_X10_write_101 (K17 : k_U → Int32 → Int32 → Option (k_U × Int32)) (u : k_U) (a1 : Int32) (a2 : Int32) : Option (k_U × Int32) :=
  k_lt (a2 + 1) fun x101 => K17 u a1 x101
def f_X10_write_90 (K17 : k_U → Int32 → Int32 → Option (k_U × Int32)) (u : k_U) (a1 : Int32) (a2 : Int32) (q3 : Nat) : Option (k_U × Int32) :=
  k_bd (f_X0_linesThere (u 10) q3) fun r95 => k_bd (f_X7_putNumber (u 3) r95) fun r98 => k_lt (k_uc u 3 r98) fun u98 => f_X10_write_101 K17 u98 a1 a2
def f_X10_write_55 (K17 : k_U → Int32 → Int32 → Option (k_U × Int32)) (u : k_U) (a1 : Int32) (a2 : Int32) : Option (k_U × Int32) :=
  k_bd (f_X9_chuteAt (u 10) a2) fun r60 => k_ck (r60 = 2 ∨ (15 ≤ r60 ∧ r60 < 23)) (k_bd (f_X0_letter (u 10) r60) fun r69 => k_bd (f_X7_put (u 3) r69) fun r72 => k_lt (k_uc u 3 r72) fun u72 => (if (u72 10 r60 5) = 0 then f_X10_write_90 K17 u72 a1 a2 r60 else (if (u72 10 r60 5) = 1 then f_X10_write_90 K17 u72 a1 a2 r60 else f_X10_write_101 K17 u72 a1 a2)))
def f_X10_write_35 (K17 : k_U → Int32 → Int32 → Option (k_U × Int32)) (u : k_U) (a1 : Int32) (a2 : Int32) : Option (k_U × Int32) :=
  (if a2 = (u 10 0 10) then k_bd (f_X7_put (u 3) 82) fun r52 => k_lt (k_uc u 3 r52) fun u52 => f_X10_write_55 K17 u52 a1 a2 else f_X10_write_55 K17 u a1 a2)
def f_X10_write_17_b (K17 : k_U → Int32 → Int32 → Option (k_U × Int32)) (u : k_U) (a1 : Int32) (a2 : Int32) : Option (k_U × Int32) :=
  (if a1 ≤ a2 then some (u, u 3 0 1) else (if a2 ≤ 0 then f_X10_write_35 K17 u a1 a2 else k_bd (f_X7_put (u 3) 32) fun r32 => k_lt (k_uc u 3 r32) fun u32 => f_X10_write_35 K17 u32 a1 a2))
def f_X10_write_17 : Nat → k_U → Int32 → Int32 → Option (k_U × Int32)
  | 0 => fun _ _ _ => none
  | n + 1 => fun u a1 a2 => f_X10_write_17_b (f_X10_write_17 n) u a1 a2
def f_X10_write (u : k_U) : Option (k_U × Int32) :=
  k_bd (f_X7_wipe (u 3)) fun r4 => k_lt (k_uc u 3 r4) fun u4 => k_bd (f_X9_chuteCount (u4 10)) fun r11 => f_X10_write_17 k_N u4 r11 0
def f_X10_output_15 (u : k_U) (a1 : Int32) : Option (Int32 ⊕ Nat) :=
  some (Sum.inr 2)
def f_X10_output (u : k_U) (a1 : Int32) : Option (Int32 ⊕ Nat) :=
  (if a1 < 0 then f_X10_output_15 u a1 else (if a1 < (u 3 0 1) then k_ck (0 ≤ a1 ∧ a1 < 64) (some (Sum.inl (u 3 1 a1.toNatClampNeg))) else f_X10_output_15 u a1))
def f_X3_bringBack (u : k_U) : Option k_U :=
  (if (u 4 0 2) ≤ 0 then some u else k_lt (k_uc u 4 (k_up (u 4) 0 1 ((((u 4 0 1) + 8) - 1) - (((u 4 0 1) + 8) - 1) / 8 * 8))) fun u20 => k_lt (k_uc u20 4 (k_up (u20 4) 0 2 ((u20 4 0 2) - 1))) fun u30 => k_ck (0 ≤ (u30 4 0 1) ∧ (u30 4 0 1) < 8) (k_bd (f_X9_copyFrom (u30 10) (u30 (15 + (u30 4 0 1).toNatClampNeg))) fun r43 => k_lt (k_uc u30 10 r43) fun u43 => some u43))
def f_X10_undo (u : k_U) : Option (k_U × (Int32 ⊕ Nat)) :=
  (if (u 4 0 2) = 0 then some (u, Sum.inr 0) else k_bd (f_X3_bringBack u) fun r29 => some (r29, Sum.inl (r29 4 0 2)))
def f_X10_save_9 (u : k_U) (a1 : Int32) : Option (k_U × (Int32 ⊕ Nat)) :=
  some (u, Sum.inr 2)
def f_X10_save (u : k_U) (a1 : Int32) : Option (k_U × (Int32 ⊕ Nat)) :=
  (if a1 < 0 then f_X10_save_9 u a1 else (if a1 < 2 then k_ck (0 ≤ a1 ∧ a1 < 2) (k_bd (f_X9_copyFrom (u (12 + a1.toNatClampNeg)) (u 10)) fun r30 => k_lt (k_uc u (12 + a1.toNatClampNeg) r30) fun u30 => k_ck (0 ≤ a1 ∧ a1 < 2) (k_lt (k_uc u30 0 (k_up (u30 0) 2 a1.toNatClampNeg (1 &&& 1))) fun u39 => some (u39, Sum.inl (u39 10 0 6)))) else f_X10_save_9 u a1))
def f_X10_restore_9 (u : k_U) (a1 : Int32) : Option (k_U × (Int32 ⊕ Nat)) :=
  some (u, Sum.inr 2)
def f_X10_restore (u : k_U) (a1 : Int32) : Option (k_U × (Int32 ⊕ Nat)) :=
  (if a1 < 0 then f_X10_restore_9 u a1 else (if a1 < 2 then k_ck (0 ≤ a1 ∧ a1 < 2) ((if (u 0 2 a1.toNatClampNeg) = 0 then some (u, Sum.inr 0) else k_ck (0 ≤ a1 ∧ a1 < 2) (k_bd (f_X9_copyFrom (u 10) (u (12 + a1.toNatClampNeg))) fun r50 => k_lt (k_uc u 10 r50) fun u50 => k_bd (f_X3_forget u50) fun r57 => some (r57, Sum.inl (r57 10 0 6))))) else f_X10_restore_9 u a1))
