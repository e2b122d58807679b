def fJ0_length_8abf5 (k : Nat) : Option Int32 := some (Int32.ofNat (sLen.getD k 0) >>> ((0 : Int32) &&& 31))
def fJ0_charAt_5068e (k : Nat) (i : Int32) : Option Int32 := (rdI (sLen.getD k 0) (fun j => (sByt.getD k []).getD j 0) i).bind (fun z => some ((z &&& 255).toUInt32 % 65536).toInt32)
/-! RX3 heardIn(II)I -/
def fX3_heardIn (a_hears : Nat → Int32) (a_shut : Nat → Int32) (p0 : Int32) (p1 : Int32) : Option (Int32) := (rdI 24 a_hears ((p0 * 4) + p1)).bind (fun z1 => (rdI 6 a_shut p0).bind (fun z2 => some (z1 &&& (z2 ^^^ ((-1))))))

/-! RX3 heardInAnyWind(I)I -/
def fX3_heardInAnyWind_4 (p0 : Int32) (a_hears : Nat → Int32) (a_shut : Nat → Int32) (kx : Int32 → Int32 → Option (Int32)) : Nat → Int32 → Int32 → Option (Int32)
  | 0, _, _ => none
  | n + 1, x2_4, x3_4 => (if 4 ≤ x3_4 then (kx x2_4 x3_4) else (fX3_heardIn a_hears a_shut p0 x3_4).bind (fun g2 => (fX3_heardInAnyWind_4 p0 a_hears a_shut kx n (x2_4 ||| g2) (x3_4 + 1))))
def fX3_heardInAnyWind (a_hears : Nat → Int32) (a_shut : Nat → Int32) (p0 : Int32) : Option (Int32) := (fX3_heardInAnyWind_4 p0 a_hears a_shut (fun x2_4_3 x3_4_4 => some x2_4_3) fu 0 0 )

/-! RX6 has(II)Z -/
def fX6_has (p0 : Int32) (p1 : Int32) : Option (Int32) := (if ((p0 >>> (p1 &&& 31)) &&& 1) = 0 then some 0 else some 1)

/-! RX0 closes(LBlindBells$RingSearch;III)Z -/
def fX0_closes_48 (p1 : Int32) (p2 : Int32) (p3 : Int32) (b_favoured : Nat → Int32) (b_villages : Int32) (rec : (Nat → Int32) → (Nat → Int32) → Int32 → Int32 → Int32 → Int32 → Option (Int32 × (Nat → Int32))) (z2 : Int32) (kx : Int32 → (Nat → Int32) → Option (Int32 × (Nat → Int32))) : Nat → Int32 → (Nat → Int32) → Option (Int32 × (Nat → Int32))
  | 0, _, _ => none
  | n + 1, x5_48, b_path_48 => (if b_villages ≤ x5_48 then (kx x5_48 b_path_48) else (fX6_has z2 x5_48).bind (fun g10 => (if g10 = 0 then (fX0_closes_48 p1 p2 p3 b_favoured b_villages rec z2 kx n (x5_48 + 1) b_path_48) else (fX6_has p3 x5_48).bind (fun g12 => (if g12 = 0 then (wrI 6 b_path_48 p2 x5_48).bind (fun u14 => (rec u14 b_favoured b_villages p1 (p2 + 1) (p3 ||| (1 <<< (x5_48 &&& 31)))).bind (fun g15 => (if g15.1 = 0 then (fX0_closes_48 p1 p2 p3 b_favoured b_villages rec z2 kx n (x5_48 + 1) g15.2) else some ((1, g15.2))))) else (fX0_closes_48 p1 p2 p3 b_favoured b_villages rec z2 kx n (x5_48 + 1) b_path_48))))))
def fX0_closes : Nat → (Nat → Int32) → (Nat → Int32) → Int32 → Int32 → Int32 → Int32 → Option (Int32 × (Nat → Int32))
  | 0, _, _, _, _, _, _ => none
  | d + 1, b_path, b_favoured, b_villages, p1, p2, p3 => (rdI 6 b_path (p2 - 1)).bind (fun z1 => (rdI 6 b_favoured z1).bind (fun z2 => (if p1 ≤ p2 then (rdI 6 b_path 0).bind (fun z4 => (fX6_has z2 z4).bind (fun g5 => (zbI g5).bind (fun z6 => some ((z6, b_path))))) else (if p2 < 6 then (rdI 6 b_path 0).bind (fun z8 => (fX0_closes_48 p1 p2 p3 b_favoured b_villages (fX0_closes d) z2 (fun x5_48_17 b_path_48_18 => some ((0, b_path_48_18))) fu (z8 + 1) b_path)) else (rdI 6 b_path 0).bind (fun z19 => (fX6_has z2 z19).bind (fun g20 => (zbI g20).bind (fun z21 => some ((z21, b_path)))))))))

/-! RX0 go(LBlindBells$Valley;)I -/
def fX0_go_10 (b_villages : Int32) (b_rope : Nat → Int32) (b_hears : Nat → Int32) (b_shut : Nat → Int32) (kx : Int32 → (Nat → Int32) → Option (Int32 × (Nat → Int32) × (Nat → Int32) × Int32)) : Nat → Int32 → (Nat → Int32) → Option (Int32 × (Nat → Int32) × (Nat → Int32) × Int32)
  | 0, _, _ => none
  | n + 1, x2_10, a_favoured_10 => (if b_villages ≤ x2_10 then (kx x2_10 a_favoured_10) else (rdI 6 b_rope x2_10).bind (fun z2 => (fX3_heardInAnyWind b_hears b_shut x2_10).bind (fun g3 => (wrI 6 a_favoured_10 z2 g3).bind (fun u4 => (fX0_go_10 b_villages b_rope b_hears b_shut kx n (x2_10 + 1) u4)))))
def fX0_go_52 (b_villages : Int32) (a_favoured_10_6 : Nat → Int32) (x2_42 : Int32) (kx : Int32 → (Nat → Int32) → Option (Int32 × (Nat → Int32) × (Nat → Int32) × Int32)) : Nat → Int32 → (Nat → Int32) → Option (Int32 × (Nat → Int32) × (Nat → Int32) × Int32)
  | 0, _, _ => none
  | n + 1, x3_52, a_path_52 => (if b_villages ≤ x3_52 then (kx x3_52 a_path_52) else (wrI 6 a_path_52 0 x3_52).bind (fun u9 => (fX0_closes 8 u9 a_favoured_10_6 b_villages x2_42 1 (1 <<< (x3_52 &&& 31))).bind (fun g10 => (if g10.1 = 0 then (fX0_go_52 b_villages a_favoured_10_6 x2_42 kx n (x3_52 + 1) g10.2) else some ((x2_42, g10.2, a_favoured_10_6, b_villages))))))
def fX0_go_42 (b_villages : Int32) (a_favoured_10_6 : Nat → Int32) (kx : Int32 → (Nat → Int32) → Option (Int32 × (Nat → Int32) × (Nat → Int32) × Int32)) : Nat → Int32 → (Nat → Int32) → Option (Int32 × (Nat → Int32) × (Nat → Int32) × Int32)
  | 0, _, _ => none
  | n + 1, x2_42, a_path_42 => (if b_villages < x2_42 then (kx x2_42 a_path_42) else (fX0_go_52 b_villages a_favoured_10_6 x2_42 (fun x3_52_12 a_path_52_13 => (fX0_go_42 b_villages a_favoured_10_6 kx n (x2_42 + 1) a_path_52_13)) fu 0 a_path_42))
def fX0_go (a_path : Nat → Int32) (a_favoured : Nat → Int32) (b_villages : Int32) (b_rope : Nat → Int32) (b_hears : Nat → Int32) (b_shut : Nat → Int32) : Option (Int32 × (Nat → Int32) × (Nat → Int32) × Int32) := (fX0_go_10 b_villages b_rope b_hears b_shut (fun x2_10_5 a_favoured_10_6 => (fX0_go_42 b_villages a_favoured_10_6 (fun x2_42_14 a_path_42_15 => some ((0, a_path_42_15, a_favoured_10_6, b_villages))) fu 2 a_path)) fu 0 a_favoured)

/-! RX6 pair(II)I -/
def fX6_pair (p0 : Int32) (p1 : Int32) : Option (Int32) := some ((p0 * 6) + p1)

/-! RX1 needsMet(LBlindBells$Valley;II)I -/
def fX1_needsMet_5 (p1 : Int32) (p2 : Int32) (b_needs : Int32) (b_hears : Nat → Int32) (b_shut : Nat → Int32) (b_needVillage : Nat → Int32) (b_needWind : Nat → Int32) (b_needSeen : Nat → Int32) (kx : Int32 → Int32 → Option (Int32)) : Nat → Int32 → Int32 → Option (Int32)
  | 0, _, _ => none
  | n + 1, x3_5, x4_5 => (if b_needs ≤ x4_5 then (kx x3_5 x4_5) else (rdI 12 b_needWind x4_5).bind (fun z2 => (fX3_heardIn b_hears b_shut p1 z2).bind (fun g3 => (rdI 12 b_needVillage x4_5).bind (fun z4 => (fX6_has g3 z4).bind (fun g5 => (if g5 = 0 then (fX1_needsMet_5 p1 p2 b_needs b_hears b_shut b_needVillage b_needWind b_needSeen kx n x3_5 (x4_5 + 1)) else (rdI 12 b_needSeen x4_5).bind (fun z7 => (fX6_has z7 p2).bind (fun g8 => (if g8 = 0 then (fX1_needsMet_5 p1 p2 b_needs b_hears b_shut b_needVillage b_needWind b_needSeen kx n x3_5 (x4_5 + 1)) else (fX1_needsMet_5 p1 p2 b_needs b_hears b_shut b_needVillage b_needWind b_needSeen kx n (x3_5 ||| (1 <<< (x4_5 &&& 31))) (x4_5 + 1)))))))))))
def fX1_needsMet (b_needs : Int32) (b_hears : Nat → Int32) (b_shut : Nat → Int32) (b_needVillage : Nat → Int32) (b_needWind : Nat → Int32) (b_needSeen : Nat → Int32) (p1 : Int32) (p2 : Int32) : Option (Int32) := (fX1_needsMet_5 p1 p2 b_needs b_hears b_shut b_needVillage b_needWind b_needSeen (fun x3_5_10 x4_5_11 => some x3_5_10) fu 0 0 )

/-! RJ6 bitCount(I)I -/
def fJ6_bitCount_0f7a4 (p0 : Int32) : Option (Int32) := some ((((((((p0 - (((p0.toUInt32 >>> ((1 : Int32).toUInt32 &&& Int32.toUInt32 31)).toInt32) &&& 1431655765)) &&& 858993459) + ((((p0 - (((p0.toUInt32 >>> ((1 : Int32).toUInt32 &&& Int32.toUInt32 31)).toInt32) &&& 1431655765)).toUInt32 >>> ((2 : Int32).toUInt32 &&& Int32.toUInt32 31)).toInt32) &&& 858993459)) + (((((p0 - (((p0.toUInt32 >>> ((1 : Int32).toUInt32 &&& Int32.toUInt32 31)).toInt32) &&& 1431655765)) &&& 858993459) + ((((p0 - (((p0.toUInt32 >>> ((1 : Int32).toUInt32 &&& Int32.toUInt32 31)).toInt32) &&& 1431655765)).toUInt32 >>> ((2 : Int32).toUInt32 &&& Int32.toUInt32 31)).toInt32) &&& 858993459)).toUInt32 >>> ((4 : Int32).toUInt32 &&& Int32.toUInt32 31)).toInt32)) &&& 252645135) + (((((((p0 - (((p0.toUInt32 >>> ((1 : Int32).toUInt32 &&& Int32.toUInt32 31)).toInt32) &&& 1431655765)) &&& 858993459) + ((((p0 - (((p0.toUInt32 >>> ((1 : Int32).toUInt32 &&& Int32.toUInt32 31)).toInt32) &&& 1431655765)).toUInt32 >>> ((2 : Int32).toUInt32 &&& Int32.toUInt32 31)).toInt32) &&& 858993459)) + (((((p0 - (((p0.toUInt32 >>> ((1 : Int32).toUInt32 &&& Int32.toUInt32 31)).toInt32) &&& 1431655765)) &&& 858993459) + ((((p0 - (((p0.toUInt32 >>> ((1 : Int32).toUInt32 &&& Int32.toUInt32 31)).toInt32) &&& 1431655765)).toUInt32 >>> ((2 : Int32).toUInt32 &&& Int32.toUInt32 31)).toInt32) &&& 858993459)).toUInt32 >>> ((4 : Int32).toUInt32 &&& Int32.toUInt32 31)).toInt32)) &&& 252645135).toUInt32 >>> ((8 : Int32).toUInt32 &&& Int32.toUInt32 31)).toInt32)) + ((((((((p0 - (((p0.toUInt32 >>> ((1 : Int32).toUInt32 &&& Int32.toUInt32 31)).toInt32) &&& 1431655765)) &&& 858993459) + ((((p0 - (((p0.toUInt32 >>> ((1 : Int32).toUInt32 &&& Int32.toUInt32 31)).toInt32) &&& 1431655765)).toUInt32 >>> ((2 : Int32).toUInt32 &&& Int32.toUInt32 31)).toInt32) &&& 858993459)) + (((((p0 - (((p0.toUInt32 >>> ((1 : Int32).toUInt32 &&& Int32.toUInt32 31)).toInt32) &&& 1431655765)) &&& 858993459) + ((((p0 - (((p0.toUInt32 >>> ((1 : Int32).toUInt32 &&& Int32.toUInt32 31)).toInt32) &&& 1431655765)).toUInt32 >>> ((2 : Int32).toUInt32 &&& Int32.toUInt32 31)).toInt32) &&& 858993459)).toUInt32 >>> ((4 : Int32).toUInt32 &&& Int32.toUInt32 31)).toInt32)) &&& 252645135) + (((((((p0 - (((p0.toUInt32 >>> ((1 : Int32).toUInt32 &&& Int32.toUInt32 31)).toInt32) &&& 1431655765)) &&& 858993459) + ((((p0 - (((p0.toUInt32 >>> ((1 : Int32).toUInt32 &&& Int32.toUInt32 31)).toInt32) &&& 1431655765)).toUInt32 >>> ((2 : Int32).toUInt32 &&& Int32.toUInt32 31)).toInt32) &&& 858993459)) + (((((p0 - (((p0.toUInt32 >>> ((1 : Int32).toUInt32 &&& Int32.toUInt32 31)).toInt32) &&& 1431655765)) &&& 858993459) + ((((p0 - (((p0.toUInt32 >>> ((1 : Int32).toUInt32 &&& Int32.toUInt32 31)).toInt32) &&& 1431655765)).toUInt32 >>> ((2 : Int32).toUInt32 &&& Int32.toUInt32 31)).toInt32) &&& 858993459)).toUInt32 >>> ((4 : Int32).toUInt32 &&& Int32.toUInt32 31)).toInt32)) &&& 252645135).toUInt32 >>> ((8 : Int32).toUInt32 &&& Int32.toUInt32 31)).toInt32)).toUInt32 >>> ((16 : Int32).toUInt32 &&& Int32.toUInt32 31)).toInt32)) &&& 63)

/-! RX1 keepIfMore(I)V -/
def fX1_keepIfMore (a_best : Nat → Int32) (a_most : Int32) (a_given : Nat → Int32) (p0 : Int32) : Option ((Nat → Int32) × Int32) := (if p0 ≤ a_most then some ((a_best, a_most)) else some ((cpI 6 a_given a_best, p0)))

/-! RX1 give(LBlindBells$RopeSearch;III)V -/
def fX1_give_26 (p1 : Int32) (p2 : Int32) (p3 : Int32) (b_meets : Nat → Int32) (b_villages : Int32) (rec : (Nat → Int32) → Int32 → (Nat → Int32) → (Nat → Int32) → Int32 → Int32 → Int32 → Int32 → Option ((Nat → Int32) × Int32 × (Nat → Int32))) (kx : Int32 → (Nat → Int32) → Int32 → (Nat → Int32) → Option ((Nat → Int32) × Int32 × (Nat → Int32))) : Nat → Int32 → (Nat → Int32) → Int32 → (Nat → Int32) → Option ((Nat → Int32) × Int32 × (Nat → Int32))
  | 0, _, _, _, _ => none
  | n + 1, x4_26, b_best_26, b_most_26, b_given_26 => (if b_villages ≤ x4_26 then (kx x4_26 b_best_26 b_most_26 b_given_26) else (fX6_pair p1 x4_26).bind (fun g6 => (rdI 36 b_meets g6).bind (fun z7 => (if z7 = ((-1)) then (fX1_give_26 p1 p2 p3 b_meets b_villages rec kx n (x4_26 + 1) b_best_26 b_most_26 b_given_26) else (fX6_has p2 x4_26).bind (fun g9 => (if g9 = 0 then (wrI 6 b_given_26 p1 x4_26).bind (fun u11 => (rec b_best_26 b_most_26 u11 b_meets b_villages (p1 + 1) (p2 ||| (1 <<< (x4_26 &&& 31))) (p3 ||| z7)).bind (fun g12 => (fX1_give_26 p1 p2 p3 b_meets b_villages rec kx n (x4_26 + 1) g12.1 g12.2.1 g12.2.2))) else (fX1_give_26 p1 p2 p3 b_meets b_villages rec kx n (x4_26 + 1) b_best_26 b_most_26 b_given_26)))))))
def fX1_give : Nat → (Nat → Int32) → Int32 → (Nat → Int32) → (Nat → Int32) → Int32 → Int32 → Int32 → Int32 → Option ((Nat → Int32) × Int32 × (Nat → Int32))
  | 0, _, _, _, _, _, _, _, _ => none
  | d + 1, b_best, b_most, b_given, b_meets, b_villages, p1, p2, p3 => (if b_villages ≤ p1 then (fJ6_bitCount_0f7a4 p3).bind (fun g2 => (fX1_keepIfMore b_best b_most b_given g2).bind (fun g3 => some ((g3.1, g3.2, b_given)))) else (if p1 < 6 then (fX1_give_26 p1 p2 p3 b_meets b_villages (fX1_give d) (fun x4_26_13 b_best_26_14 b_most_26_15 b_given_26_16 => some ((b_best_26_14, b_most_26_15, b_given_26_16))) fu 0 b_best b_most b_given) else (fJ6_bitCount_0f7a4 p3).bind (fun g17 => (fX1_keepIfMore b_best b_most b_given g17).bind (fun g18 => some ((g18.1, g18.2, b_given))))))

/-! RX1 go(LBlindBells$Valley;)V -/
def fX1_go_32 (b_villages : Int32) (b_needs : Int32) (b_hears : Nat → Int32) (b_shut : Nat → Int32) (b_needVillage : Nat → Int32) (b_needWind : Nat → Int32) (b_needSeen : Nat → Int32) (x2_15 : Int32) (g2 : Int32) (kx : Int32 → (Nat → Int32) → Option ((Nat → Int32) × Int32 × (Nat → Int32) × (Nat → Int32) × Int32)) : Nat → Int32 → (Nat → Int32) → Option ((Nat → Int32) × Int32 × (Nat → Int32) × (Nat → Int32) × Int32)
  | 0, _, _ => none
  | n + 1, x4_32, a_meets_32 => (if b_villages ≤ x4_32 then (kx x4_32 a_meets_32) else (fX6_pair x2_15 x4_32).bind (fun g4 => (fX6_has g2 x4_32).bind (fun g5 => (if g5 = 0 then (fX1_needsMet b_needs b_hears b_shut b_needVillage b_needWind b_needSeen x2_15 x4_32).bind (fun g7 => (wrI 36 a_meets_32 g4 g7).bind (fun u8 => (fX1_go_32 b_villages b_needs b_hears b_shut b_needVillage b_needWind b_needSeen x2_15 g2 kx n (x4_32 + 1) u8))) else (wrI 36 a_meets_32 g4 ((-1))).bind (fun u9 => (fX1_go_32 b_villages b_needs b_hears b_shut b_needVillage b_needWind b_needSeen x2_15 g2 kx n (x4_32 + 1) u9))))))
def fX1_go_15 (b_villages : Int32) (b_needs : Int32) (b_hears : Nat → Int32) (b_shut : Nat → Int32) (b_needVillage : Nat → Int32) (b_needWind : Nat → Int32) (b_needSeen : Nat → Int32) (kx : Int32 → (Nat → Int32) → Option ((Nat → Int32) × Int32 × (Nat → Int32) × (Nat → Int32) × Int32)) : Nat → Int32 → (Nat → Int32) → Option ((Nat → Int32) × Int32 × (Nat → Int32) × (Nat → Int32) × Int32)
  | 0, _, _ => none
  | n + 1, x2_15, a_meets_15 => (if b_villages ≤ x2_15 then (kx x2_15 a_meets_15) else (fX3_heardInAnyWind b_hears b_shut x2_15).bind (fun g2 => (fX1_go_32 b_villages b_needs b_hears b_shut b_needVillage b_needWind b_needSeen x2_15 g2 (fun x4_32_10 a_meets_32_11 => (fX1_go_15 b_villages b_needs b_hears b_shut b_needVillage b_needWind b_needSeen kx n (x2_15 + 1) a_meets_32_11)) fu 0 a_meets_15)))
def fX1_go (a_best : Nat → Int32) (a_given : Nat → Int32) (a_meets : Nat → Int32) (b_villages : Int32) (b_needs : Int32) (b_hears : Nat → Int32) (b_shut : Nat → Int32) (b_needVillage : Nat → Int32) (b_needWind : Nat → Int32) (b_needSeen : Nat → Int32) : Option ((Nat → Int32) × Int32 × (Nat → Int32) × (Nat → Int32) × Int32) := (fX1_go_15 b_villages b_needs b_hears b_shut b_needVillage b_needWind b_needSeen (fun x2_15_12 a_meets_15_13 => (fX1_give 8 a_best ((-1)) a_given a_meets_15_13 b_villages 0 0 0).bind (fun g14 => some ((g14.1, g14.2.1, g14.2.2, a_meets_15_13, b_villages)))) fu 0 a_meets)

/-! RX2 write(JI)I -/
def fX2_write_34 (p0 : Int64) (kx : Int32 → Int32 → (Nat → Int32) → Option (Int32 × Int32 × (Nat → Int32))) : Nat → Int32 → Int32 → (Nat → Int32) → Option (Int32 × Int32 × (Nat → Int32))
  | 0, _, _, _ => none
  | n + 1, x4_34, a_length_34, a_text_34 => (if x4_34 < 0 then (kx x4_34 a_length_34 a_text_34) else (wrI 250 a_text_34 a_length_34 (vp_nar .byte (((p0 >>> ((8 * x4_34).toInt64 &&& 63)).toInt32).toInt8.toInt32))).bind (fun u5 => (fX2_write_34 p0 kx n (x4_34 + (-1)) (a_length_34 + 1) u5)))
def fX2_write (a_length : Int32) (a_text : Nat → Int32) (p0 : Int64) (p1 : Int32) : Option (Int32 × Int32 × (Nat → Int32)) := (if p1 < 1 then some (((-2), a_length, a_text)) else (if p1 ≤ 8 then (if (a_length + p1) ≤ 250 then (fX2_write_34 p0 (fun x4_34_6 a_length_34_7 a_text_34_8 => some ((a_length_34_7, a_length_34_7, a_text_34_8))) fu (p1 - 1) a_length a_text) else some (((-4), a_length, a_text))) else some (((-2), a_length, a_text))))

/-! RX2 wipe()I -/
def fX2_wipe (a_length : Int32) : Option (Int32 × Int32) := some ((a_length, 0))

/-! RX2 isLetter(B)Z -/
def fX2_isLetter (p0 : Int32) : Option (Int32) := (if p0 < 97 then some 0 else (if 122 < p0 then some 0 else some 1))

/-! RX2 isFigure(B)Z -/
def fX2_isFigure (p0 : Int32) : Option (Int32) := (if p0 < 48 then some 0 else (if 57 < p0 then some 0 else some 1))

/-! RX2 endOfToken(I)I -/
def fX2_endOfToken_54 (a_length : Int32) (a_text : Nat → Int32) (kx : Int32 → Option (Int32)) : Nat → Int32 → Option (Int32)
  | 0, _ => none
  | n + 1, x2_54 => (if a_length ≤ x2_54 then (kx x2_54) else (rdI 250 a_text x2_54).bind (fun z8 => (fX2_isFigure z8).bind (fun g9 => (if g9 = 0 then (kx x2_54) else (fX2_endOfToken_54 a_length a_text kx n (x2_54 + 1))))))
def fX2_endOfToken_16 (a_length : Int32) (a_text : Nat → Int32) (kx : Int32 → Option (Int32)) : Nat → Int32 → Option (Int32)
  | 0, _ => none
  | n + 1, x2_16 => (if a_length ≤ x2_16 then (kx x2_16) else (rdI 250 a_text x2_16).bind (fun z13 => (fX2_isLetter z13).bind (fun g14 => (if g14 = 0 then (kx x2_16) else (fX2_endOfToken_16 a_length a_text kx n (x2_16 + 1))))))
def fX2_endOfToken (a_length : Int32) (a_text : Nat → Int32) (p0 : Int32) : Option (Int32) := (rdI 250 a_text p0).bind (fun z1 => (fX2_isLetter z1).bind (fun g2 => (if g2 = 0 then (rdI 250 a_text p0).bind (fun z4 => (fX2_isFigure z4).bind (fun g5 => (if g5 = 0 then some (p0 + 1) else (fX2_endOfToken_54 a_length a_text (fun x2_54_11 => some x2_54_11) fu (p0 + 1) )))) else (fX2_endOfToken_16 a_length a_text (fun x2_16_16 => some x2_16_16) fu (p0 + 1) ))))

/-! RX2 isWord(Ljava/lang/String;II)Z -/
def fX2_isWord_15 (k : Nat) (p1 : Int32) (p2 : Int32) (a_text : Nat → Int32) (kx : Int32 → Option (Int32)) : Nat → Int32 → Option (Int32)
  | 0, _ => none
  | n + 1, x4_15 => (if p2 ≤ x4_15 then (kx x4_15) else (fJ0_charAt_5068e k (x4_15 - p1)).bind (fun g4 => (rdI 250 a_text x4_15).bind (fun z5 => (if g4 = z5 then (fX2_isWord_15 k p1 p2 a_text kx n (x4_15 + 1)) else some 0))))
def fX2_isWord (a_text : Nat → Int32) (k : Nat) (p1 : Int32) (p2 : Int32) : Option (Int32) := (fJ0_length_8abf5 k).bind (fun g1 => (if g1 = (p2 - p1) then (fX2_isWord_15 k p1 p2 a_text (fun x4_15_7 => some 1) fu p1 ) else some 0))

/-! RX2 wordAt(II)I -/
def fX2_wordAt (a_text : Nat → Int32) (p0 : Int32) (p1 : Int32) : Option (Int32) := (fX2_isWord a_text 0 p0 p1).bind (fun g1 => (if g1 = 0 then (fX2_isWord a_text 1 p0 p1).bind (fun g3 => (if g3 = 0 then (fX2_isWord a_text 2 p0 p1).bind (fun g5 => (if g5 = 0 then (fX2_isWord a_text 3 p0 p1).bind (fun g7 => (if g7 = 0 then (fX2_isWord a_text 4 p0 p1).bind (fun g9 => (if g9 = 0 then (fX2_isWord a_text 5 p0 p1).bind (fun g11 => (if g11 = 0 then some ((-1)) else some 5)) else some 4)) else some 3)) else some 2)) else some 1)) else some 0))

/-! RX2 takesWord(II)Z -/
def fX2_takesWord (a_text : Nat → Int32) (a_word : Int32) (a_numbers : Int32) (a_items : Int32) (p0 : Int32) (p1 : Int32) : Option (Int32 × Int32 × Int32) := (fX2_wordAt a_text p0 p1).bind (fun g1 => (if g1 = ((-1)) then some ((0, a_word, a_numbers)) else (if g1 = 0 then some 1 else some 0 : Option (Int32)).bind (fun f4 => (if a_items = 0 then some 1 else some 0 : Option (Int32)).bind (fun f6 => (if f4 = f6 then some ((1, g1, 0)) else some ((0, a_word, a_numbers)))))))

/-! RX2 takesNumber(II)Z -/
def fX2_takesNumber_26 (p1 : Int32) (a_text : Nat → Int32) (kx : Int32 → Int32 → Option (Int32 × (Nat → Int32) × Int32)) : Nat → Int32 → Int32 → Option (Int32 × (Nat → Int32) × Int32)
  | 0, _, _ => none
  | n + 1, x3_26, x4_26 => (if p1 ≤ x4_26 then (kx x3_26 x4_26) else (rdI 250 a_text x4_26).bind (fun z6 => (fX2_takesNumber_26 p1 a_text kx n (((10 * x3_26) + z6) - 48) (x4_26 + 1))))
def fX2_takesNumber (a_text : Nat → Int32) (a_number : Nat → Int32) (a_numbers : Int32) (p0 : Int32) (p1 : Int32) : Option (Int32 × (Nat → Int32) × Int32) := (rdI 250 a_text p0).bind (fun z1 => (fX2_isFigure z1).bind (fun g2 => (if g2 = 0 then some ((0, a_number, a_numbers)) else (if (p1 - p0) ≤ 2 then (fX2_takesNumber_26 p1 a_text (fun x3_26_7 x4_26_8 => (wrI 3 a_number a_numbers x3_26_7).bind (fun u9 => some ((1, u9, a_numbers + 1)))) fu 0 p0 ) else some ((0, a_number, a_numbers))))))

/-! RJ7 fill([II)V -/
def fJ7_fill_53178_5 (p1 : Int32) (x_len : Nat) (kx : Int32 → (Nat → Int32) → Option ((Nat → Int32))) : Nat → Int32 → (Nat → Int32) → Option ((Nat → Int32))
  | 0, _, _ => none
  | n + 1, x2_5, x_c_5 => (if (Int32.ofNat x_len) ≤ x2_5 then (kx x2_5 x_c_5) else (wrI x_len x_c_5 x2_5 p1).bind (fun u2 => (fJ7_fill_53178_5 p1 x_len kx n (x2_5 + 1) u2)))
def fJ7_fill_53178 (x_len : Nat) (x_c : Nat → Int32) (p1 : Int32) : Option ((Nat → Int32)) := (fJ7_fill_53178_5 p1 x_len (fun x2_5_3 x_c_5_4 => some x_c_5_4) fu 0 x_c)

/-! RX3 settle(I)Z -/
def fX3_settle_59  (kx : Int32 → (Nat → Int32) → (Nat → Int32) → Option (Int32 × Int32 × Int32 × Int32 × Int32 × (Nat → Int32) × (Nat → Int32) × (Nat → Int32) × (Nat → Int32) × (Nat → Int32))) : Nat → Int32 → (Nat → Int32) → (Nat → Int32) → Option (Int32 × Int32 × Int32 × Int32 × Int32 × (Nat → Int32) × (Nat → Int32) × (Nat → Int32) × (Nat → Int32) × (Nat → Int32))
  | 0, _, _, _ => none
  | n + 1, x2_59, a_friend_59, a_rope_59 => (if 6 ≤ x2_59 then (kx x2_59 a_friend_59 a_rope_59) else (wrI 6 a_friend_59 x2_59 x2_59).bind (fun u7 => (wrI 6 a_rope_59 x2_59 x2_59).bind (fun u8 => (fX3_settle_59  kx n (x2_59 + 1) u7 u8))))
def fX3_settle (a_villages : Int32) (a_woods : Int32) (a_needs : Int32) (a_signs : Int32) (a_temper : Nat → Int32) (a_friend : Nat → Int32) (a_rope : Nat → Int32) (a_hears : Nat → Int32) (a_shut : Nat → Int32) (p0 : Int32) : Option (Int32 × Int32 × Int32 × Int32 × Int32 × (Nat → Int32) × (Nat → Int32) × (Nat → Int32) × (Nat → Int32) × (Nat → Int32)) := (if p0 < 2 then some ((0, a_villages, a_woods, a_needs, a_signs, a_temper, a_friend, a_rope, a_hears, a_shut)) else (if p0 ≤ 6 then (fJ7_fill_53178 6 a_temper 0).bind (fun g3 => (fJ7_fill_53178 24 a_hears 0).bind (fun g4 => (fJ7_fill_53178 6 a_shut 0).bind (fun g5 => (fX3_settle_59 (fun x2_59_9 a_friend_59_10 a_rope_59_11 => some ((1, p0, 0, 0, 0, g3, a_friend_59_10, a_rope_59_11, g4, g5))) fu 0 a_friend a_rope)))) else some ((0, a_villages, a_woods, a_needs, a_signs, a_temper, a_friend, a_rope, a_hears, a_shut))))

/-! RX3 isVillage(I)Z -/
def fX3_isVillage (a_villages : Int32) (p0 : Int32) : Option (Int32) := (if p0 < 0 then some 0 else (if a_villages ≤ p0 then some 0 else some 1))

/-! RX3 areTwo(II)Z -/
def fX3_areTwo (a_villages : Int32) (p0 : Int32) (p1 : Int32) : Option (Int32) := (fX3_isVillage a_villages p0).bind (fun g1 => (if g1 = 0 then some 0 else (fX3_isVillage a_villages p1).bind (fun g3 => (if g3 = 0 then some 0 else (if p0 = p1 then some 0 else some 1)))))

/-! RX6 isWind(I)Z -/
def fX6_isWind (p0 : Int32) : Option (Int32) := (if p0 < 0 then some 0 else (if 4 ≤ p0 then some 0 else some 1))

/-! RX3 setHears(IIIZ)I -/
def fX3_setHears (a_villages : Int32) (a_hears : Nat → Int32) (p0 : Int32) (p1 : Int32) (p2 : Int32) (p3 : Int32) : Option (Int32 × (Nat → Int32)) := (fX3_areTwo a_villages p0 p2).bind (fun g1 => (if g1 = 0 then some (((-2), a_hears)) else (fX6_isWind p1).bind (fun g3 => (if g3 = 0 then some (((-2), a_hears)) else (rdI 24 a_hears ((p0 * 4) + p1)).bind (fun z5 => (fX6_has z5 p2).bind (fun g6 => (if g6 = p3 then some (((-3), a_hears)) else (rdI 24 a_hears ((p0 * 4) + p1)).bind (fun z8 => (wrI 24 a_hears ((p0 * 4) + p1) (z8 ^^^ (1 <<< (p2 &&& 31)))).bind (fun u9 => some ((1, u9)))))))))))

/-! RX3 addWood(II)I -/
def fX3_addWood (a_villages : Int32) (a_woods : Int32) (a_shut : Nat → Int32) (a_woodBell : Nat → Int32) (a_woodVillage : Nat → Int32) (p0 : Int32) (p1 : Int32) : Option (Int32 × Int32 × (Nat → Int32) × (Nat → Int32) × (Nat → Int32)) := (fX3_areTwo a_villages p0 p1).bind (fun g1 => (if g1 = 0 then some (((-2), a_woods, a_shut, a_woodBell, a_woodVillage)) else (if a_woods < 8 then (wrI 8 a_woodBell a_woods p0).bind (fun u4 => (wrI 8 a_woodVillage a_woods p1).bind (fun u5 => (rdI 6 a_shut p0).bind (fun z6 => (wrI 6 a_shut p0 (z6 ||| (1 <<< (p1 &&& 31)))).bind (fun u7 => some ((a_woods, a_woods + 1, u7, u4, u5)))))) else some (((-4), a_woods, a_shut, a_woodBell, a_woodVillage)))))

/-! RX3 setTemper(II)I -/
def fX3_setTemper (a_villages : Int32) (a_temper : Nat → Int32) (p0 : Int32) (p1 : Int32) : Option (Int32 × (Nat → Int32)) := (fX3_isVillage a_villages p0).bind (fun g1 => (if g1 = 0 then some (((-2), a_temper)) else (if p1 < 0 then some (((-2), a_temper)) else (if p1 ≤ 5 then (rdI 6 a_temper p0).bind (fun z5 => (wrI 6 a_temper p0 p1).bind (fun u6 => some ((z5, u6)))) else some (((-2), a_temper))))))

/-! RX3 setFriend(II)I -/
def fX3_setFriend (a_villages : Int32) (a_friend : Nat → Int32) (p0 : Int32) (p1 : Int32) : Option (Int32 × (Nat → Int32)) := (fX3_isVillage a_villages p0).bind (fun g1 => (if g1 = 0 then some (((-2), a_friend)) else (fX3_isVillage a_villages p1).bind (fun g3 => (if g3 = 0 then some (((-2), a_friend)) else (rdI 6 a_friend p0).bind (fun z5 => (wrI 6 a_friend p0 p1).bind (fun u6 => some ((z5, u6))))))))

/-! RX3 areBits(I)Z -/
def fX3_areBits (a_villages : Int32) (p0 : Int32) : Option (Int32) := (if p0 < 0 then some 0 else (if (1 <<< (a_villages &&& 31)) ≤ p0 then some 0 else some 1))

/-! RX3 addNeed(III)I -/
def fX3_addNeed (a_villages : Int32) (a_needs : Int32) (a_needVillage : Nat → Int32) (a_needWind : Nat → Int32) (a_needSeen : Nat → Int32) (p0 : Int32) (p1 : Int32) (p2 : Int32) : Option (Int32 × Int32 × (Nat → Int32) × (Nat → Int32) × (Nat → Int32)) := (fX3_isVillage a_villages p0).bind (fun g1 => (if g1 = 0 then some (((-2), a_needs, a_needVillage, a_needWind, a_needSeen)) else (fX6_isWind p1).bind (fun g3 => (if g3 = 0 then some (((-2), a_needs, a_needVillage, a_needWind, a_needSeen)) else (fX3_areBits a_villages p2).bind (fun g5 => (if g5 = 0 then some (((-2), a_needs, a_needVillage, a_needWind, a_needSeen)) else (fX6_has p2 p0).bind (fun g7 => (if g7 = 0 then (if a_needs < 12 then (wrI 12 a_needVillage a_needs p0).bind (fun u10 => (wrI 12 a_needWind a_needs p1).bind (fun u11 => (wrI 12 a_needSeen a_needs p2).bind (fun u12 => some ((a_needs, a_needs + 1, u10, u11, u12))))) else some (((-4), a_needs, a_needVillage, a_needWind, a_needSeen))) else some (((-2), a_needs, a_needVillage, a_needWind, a_needSeen))))))))))

/-! RX2 isTaken(LBlindBells$Valley;)Z -/
def fX2_isTaken (a_number : Nat → Int32) (a_word : Int32) (b_villages : Int32) (b_woods : Int32) (b_needs : Int32) (b_signs : Int32) (b_temper : Nat → Int32) (b_friend : Nat → Int32) (b_rope : Nat → Int32) (b_hears : Nat → Int32) (b_shut : Nat → Int32) (b_woodBell : Nat → Int32) (b_woodVillage : Nat → Int32) (b_needVillage : Nat → Int32) (b_needWind : Nat → Int32) (b_needSeen : Nat → Int32) : Option (Int32 × Int32 × Int32 × Int32 × Int32 × (Nat → Int32) × (Nat → Int32) × (Nat → Int32) × (Nat → Int32) × (Nat → Int32) × (Nat → Int32) × (Nat → Int32) × (Nat → Int32) × (Nat → Int32) × (Nat → Int32)) := (if a_word = 0 then (rdI 3 a_number 0).bind (fun z2 => (fX3_settle b_villages b_woods b_needs b_signs b_temper b_friend b_rope b_hears b_shut z2).bind (fun g3 => (zbI g3.1).bind (fun z4 => some ((z4, g3.2.1, g3.2.2.1, g3.2.2.2.1, g3.2.2.2.2.1, g3.2.2.2.2.2.1, g3.2.2.2.2.2.2.1, g3.2.2.2.2.2.2.2.1, g3.2.2.2.2.2.2.2.2.1, g3.2.2.2.2.2.2.2.2.2, b_woodBell, b_woodVillage, b_needVillage, b_needWind, b_needSeen))))) else (if a_word = 1 then (rdI 3 a_number 0).bind (fun z6 => (rdI 3 a_number 1).bind (fun z7 => (rdI 3 a_number 2).bind (fun z8 => (fX3_setHears b_villages b_hears z6 z7 z8 1).bind (fun g9 => (if g9.1 < 0 then some ((0, b_villages, b_woods, b_needs, b_signs, b_temper, b_friend, b_rope, g9.2, b_shut, b_woodBell, b_woodVillage, b_needVillage, b_needWind, b_needSeen)) else some ((1, b_villages, b_woods, b_needs, b_signs, b_temper, b_friend, b_rope, g9.2, b_shut, b_woodBell, b_woodVillage, b_needVillage, b_needWind, b_needSeen))))))) else (if a_word = 2 then (rdI 3 a_number 0).bind (fun z12 => (rdI 3 a_number 1).bind (fun z13 => (fX3_addWood b_villages b_woods b_shut b_woodBell b_woodVillage z12 z13).bind (fun g14 => (if g14.1 < 0 then some ((0, b_villages, g14.2.1, b_needs, b_signs, b_temper, b_friend, b_rope, b_hears, g14.2.2.1, g14.2.2.2.1, g14.2.2.2.2, b_needVillage, b_needWind, b_needSeen)) else some ((1, b_villages, g14.2.1, b_needs, b_signs, b_temper, b_friend, b_rope, b_hears, g14.2.2.1, g14.2.2.2.1, g14.2.2.2.2, b_needVillage, b_needWind, b_needSeen)))))) else (if a_word = 3 then (rdI 3 a_number 0).bind (fun z17 => (rdI 3 a_number 1).bind (fun z18 => (fX3_setTemper b_villages b_temper z17 z18).bind (fun g19 => (if g19.1 < 0 then some ((0, b_villages, b_woods, b_needs, b_signs, g19.2, b_friend, b_rope, b_hears, b_shut, b_woodBell, b_woodVillage, b_needVillage, b_needWind, b_needSeen)) else some ((1, b_villages, b_woods, b_needs, b_signs, g19.2, b_friend, b_rope, b_hears, b_shut, b_woodBell, b_woodVillage, b_needVillage, b_needWind, b_needSeen)))))) else (if a_word = 4 then (rdI 3 a_number 0).bind (fun z22 => (rdI 3 a_number 1).bind (fun z23 => (fX3_setFriend b_villages b_friend z22 z23).bind (fun g24 => (if g24.1 < 0 then some ((0, b_villages, b_woods, b_needs, b_signs, b_temper, g24.2, b_rope, b_hears, b_shut, b_woodBell, b_woodVillage, b_needVillage, b_needWind, b_needSeen)) else some ((1, b_villages, b_woods, b_needs, b_signs, b_temper, g24.2, b_rope, b_hears, b_shut, b_woodBell, b_woodVillage, b_needVillage, b_needWind, b_needSeen)))))) else (rdI 3 a_number 0).bind (fun z26 => (rdI 3 a_number 1).bind (fun z27 => (rdI 3 a_number 2).bind (fun z28 => (fX3_addNeed b_villages b_needs b_needVillage b_needWind b_needSeen z26 z27 z28).bind (fun g29 => (if g29.1 < 0 then some ((0, b_villages, b_woods, g29.2.1, b_signs, b_temper, b_friend, b_rope, b_hears, b_shut, b_woodBell, b_woodVillage, g29.2.2.1, g29.2.2.2.1, g29.2.2.2.2)) else some ((1, b_villages, b_woods, g29.2.1, b_signs, b_temper, b_friend, b_rope, b_hears, b_shut, b_woodBell, b_woodVillage, g29.2.2.1, g29.2.2.2.1, g29.2.2.2.2))))))))))))

/-! RX2 stands(IILBlindBells$Valley;)Z -/
def fX2_stands (a_text : Nat → Int32) (a_number : Nat → Int32) (a_word : Int32) (a_numbers : Int32) (a_items : Int32) (a_refused : Int32) (b_villages : Int32) (b_woods : Int32) (b_needs : Int32) (b_signs : Int32) (b_temper : Nat → Int32) (b_friend : Nat → Int32) (b_rope : Nat → Int32) (b_hears : Nat → Int32) (b_shut : Nat → Int32) (b_woodBell : Nat → Int32) (b_woodVillage : Nat → Int32) (b_needVillage : Nat → Int32) (b_needWind : Nat → Int32) (b_needSeen : Nat → Int32) (p0 : Int32) (p1 : Int32) : Option (Int32 × (Nat → Int32) × Int32 × Int32 × Int32 × Int32 × Int32 × Int32 × Int32 × Int32 × (Nat → Int32) × (Nat → Int32) × (Nat → Int32) × (Nat → Int32) × (Nat → Int32) × (Nat → Int32) × (Nat → Int32) × (Nat → Int32) × (Nat → Int32) × (Nat → Int32)) := (if a_word = ((-1)) then (fX2_takesWord a_text a_word a_numbers a_items p0 p1).bind (fun g12 => (zbI g12.1).bind (fun z13 => some ((z13, a_number, g12.2.1, g12.2.2, a_items, a_refused, b_villages, b_woods, b_needs, b_signs, b_temper, b_friend, b_rope, b_hears, b_shut, b_woodBell, b_woodVillage, b_needVillage, b_needWind, b_needSeen)))) else (rdI 6 (fun j => numL.getD j 0) a_word).bind (fun z2 => (if z2 ≤ a_numbers then (rdI 250 a_text p0).bind (fun z4 => (if z4 = 59 then (if a_refused = ((-1)) then (fX2_isTaken a_number a_word b_villages b_woods b_needs b_signs b_temper b_friend b_rope b_hears b_shut b_woodBell b_woodVillage b_needVillage b_needWind b_needSeen).bind (fun g8 => (if g8.1 = 0 then some ((a_items, g8.2.1, g8.2.2.1, g8.2.2.2.1, g8.2.2.2.2.1, g8.2.2.2.2.2.1, g8.2.2.2.2.2.2.1, g8.2.2.2.2.2.2.2.1, g8.2.2.2.2.2.2.2.2.1, g8.2.2.2.2.2.2.2.2.2.1, g8.2.2.2.2.2.2.2.2.2.2.1, g8.2.2.2.2.2.2.2.2.2.2.2.1, g8.2.2.2.2.2.2.2.2.2.2.2.2.1, g8.2.2.2.2.2.2.2.2.2.2.2.2.2.1, g8.2.2.2.2.2.2.2.2.2.2.2.2.2.2)) else some ((a_refused, g8.2.1, g8.2.2.1, g8.2.2.2.1, g8.2.2.2.2.1, g8.2.2.2.2.2.1, g8.2.2.2.2.2.2.1, g8.2.2.2.2.2.2.2.1, g8.2.2.2.2.2.2.2.2.1, g8.2.2.2.2.2.2.2.2.2.1, g8.2.2.2.2.2.2.2.2.2.2.1, g8.2.2.2.2.2.2.2.2.2.2.2.1, g8.2.2.2.2.2.2.2.2.2.2.2.2.1, g8.2.2.2.2.2.2.2.2.2.2.2.2.2.1, g8.2.2.2.2.2.2.2.2.2.2.2.2.2.2)))) else some ((a_refused, b_villages, b_woods, b_needs, b_signs, b_temper, b_friend, b_rope, b_hears, b_shut, b_woodBell, b_woodVillage, b_needVillage, b_needWind, b_needSeen)) : Option (Int32 × Int32 × Int32 × Int32 × Int32 × (Nat → Int32) × (Nat → Int32) × (Nat → Int32) × (Nat → Int32) × (Nat → Int32) × (Nat → Int32) × (Nat → Int32) × (Nat → Int32) × (Nat → Int32) × (Nat → Int32))).bind (fun f7 => some ((1, a_number, (-1), a_numbers, a_items + 1, f7.1, f7.2.1, f7.2.2.1, f7.2.2.2.1, f7.2.2.2.2.1, f7.2.2.2.2.2.1, f7.2.2.2.2.2.2.1, f7.2.2.2.2.2.2.2.1, f7.2.2.2.2.2.2.2.2.1, f7.2.2.2.2.2.2.2.2.2.1, f7.2.2.2.2.2.2.2.2.2.2.1, f7.2.2.2.2.2.2.2.2.2.2.2.1, f7.2.2.2.2.2.2.2.2.2.2.2.2.1, f7.2.2.2.2.2.2.2.2.2.2.2.2.2.1, f7.2.2.2.2.2.2.2.2.2.2.2.2.2.2))) else some ((0, a_number, a_word, a_numbers, a_items, a_refused, b_villages, b_woods, b_needs, b_signs, b_temper, b_friend, b_rope, b_hears, b_shut, b_woodBell, b_woodVillage, b_needVillage, b_needWind, b_needSeen)))) else (fX2_takesNumber a_text a_number a_numbers p0 p1).bind (fun g10 => (zbI g10.1).bind (fun z11 => some ((z11, g10.2.1, a_word, g10.2.2, a_items, a_refused, b_villages, b_woods, b_needs, b_signs, b_temper, b_friend, b_rope, b_hears, b_shut, b_woodBell, b_woodVillage, b_needVillage, b_needWind, b_needSeen)))))))

/-! RX2 tell(LBlindBells$Valley;)I -/
def fX2_tell_19 (a_length : Int32) (a_text : Nat → Int32) (kx : Int32 → Int32 → (Nat → Int32) → Int32 → Int32 → Int32 → Int32 → Int32 → Int32 → Int32 → Int32 → (Nat → Int32) → (Nat → Int32) → (Nat → Int32) → (Nat → Int32) → (Nat → Int32) → (Nat → Int32) → (Nat → Int32) → (Nat → Int32) → (Nat → Int32) → (Nat → Int32) → Option (Int32 × (Nat → Int32) × Int32 × Int32 × Int32 × Int32 × Int32 × Int32 × Int32 × Int32 × (Nat → Int32) × (Nat → Int32) × (Nat → Int32) × (Nat → Int32) × (Nat → Int32) × (Nat → Int32) × (Nat → Int32) × (Nat → Int32) × (Nat → Int32) × (Nat → Int32))) : Nat → Int32 → Int32 → (Nat → Int32) → Int32 → Int32 → Int32 → Int32 → Int32 → Int32 → Int32 → Int32 → (Nat → Int32) → (Nat → Int32) → (Nat → Int32) → (Nat → Int32) → (Nat → Int32) → (Nat → Int32) → (Nat → Int32) → (Nat → Int32) → (Nat → Int32) → (Nat → Int32) → Option (Int32 × (Nat → Int32) × Int32 × Int32 × Int32 × Int32 × Int32 × Int32 × Int32 × Int32 × (Nat → Int32) × (Nat → Int32) × (Nat → Int32) × (Nat → Int32) × (Nat → Int32) × (Nat → Int32) × (Nat → Int32) × (Nat → Int32) × (Nat → Int32) × (Nat → Int32))
  | 0, _, _, _, _, _, _, _, _, _, _, _, _, _, _, _, _, _, _, _, _, _ => none
  | n + 1, x2_19, x3_19, a_number_19, a_word_19, a_numbers_19, a_items_19, a_refused_19, b_villages_19, b_woods_19, b_needs_19, b_signs_19, b_temper_19, b_friend_19, b_rope_19, b_hears_19, b_shut_19, b_woodBell_19, b_woodVillage_19, b_needVillage_19, b_needWind_19, b_needSeen_19 => (if a_length ≤ x3_19 then (kx x2_19 x3_19 a_number_19 a_word_19 a_numbers_19 a_items_19 a_refused_19 b_villages_19 b_woods_19 b_needs_19 b_signs_19 b_temper_19 b_friend_19 b_rope_19 b_hears_19 b_shut_19 b_woodBell_19 b_woodVillage_19 b_needVillage_19 b_needWind_19 b_needSeen_19) else (if x3_19 < x2_19 then (fX2_tell_19 a_length a_text kx n x2_19 (x3_19 + 1) a_number_19 a_word_19 a_numbers_19 a_items_19 a_refused_19 b_villages_19 b_woods_19 b_needs_19 b_signs_19 b_temper_19 b_friend_19 b_rope_19 b_hears_19 b_shut_19 b_woodBell_19 b_woodVillage_19 b_needVillage_19 b_needWind_19 b_needSeen_19) else (rdI 250 a_text x3_19).bind (fun z3 => (if z3 = 32 then (fX2_tell_19 a_length a_text kx n x2_19 (x3_19 + 1) a_number_19 a_word_19 a_numbers_19 a_items_19 a_refused_19 b_villages_19 b_woods_19 b_needs_19 b_signs_19 b_temper_19 b_friend_19 b_rope_19 b_hears_19 b_shut_19 b_woodBell_19 b_woodVillage_19 b_needVillage_19 b_needWind_19 b_needSeen_19) else (fX2_endOfToken a_length a_text x3_19).bind (fun g5 => (fX2_stands a_text a_number_19 a_word_19 a_numbers_19 a_items_19 a_refused_19 b_villages_19 b_woods_19 b_needs_19 b_signs_19 b_temper_19 b_friend_19 b_rope_19 b_hears_19 b_shut_19 b_woodBell_19 b_woodVillage_19 b_needVillage_19 b_needWind_19 b_needSeen_19 x3_19 g5).bind (fun g6 => (if g6.1 = 0 then some ((((-10)) - x3_19, g6.2.1, g6.2.2.1, g6.2.2.2.1, g6.2.2.2.2.1, g6.2.2.2.2.2.1, g6.2.2.2.2.2.2.1, g6.2.2.2.2.2.2.2.1, g6.2.2.2.2.2.2.2.2.1, g6.2.2.2.2.2.2.2.2.2.1, g6.2.2.2.2.2.2.2.2.2.2.1, g6.2.2.2.2.2.2.2.2.2.2.2.1, g6.2.2.2.2.2.2.2.2.2.2.2.2.1, g6.2.2.2.2.2.2.2.2.2.2.2.2.2.1, g6.2.2.2.2.2.2.2.2.2.2.2.2.2.2.1, g6.2.2.2.2.2.2.2.2.2.2.2.2.2.2.2.1, g6.2.2.2.2.2.2.2.2.2.2.2.2.2.2.2.2.1, g6.2.2.2.2.2.2.2.2.2.2.2.2.2.2.2.2.2.1, g6.2.2.2.2.2.2.2.2.2.2.2.2.2.2.2.2.2.2.1, g6.2.2.2.2.2.2.2.2.2.2.2.2.2.2.2.2.2.2.2)) else (fX2_tell_19 a_length a_text kx n g5 (x3_19 + 1) g6.2.1 g6.2.2.1 g6.2.2.2.1 g6.2.2.2.2.1 g6.2.2.2.2.2.1 g6.2.2.2.2.2.2.1 g6.2.2.2.2.2.2.2.1 g6.2.2.2.2.2.2.2.2.1 g6.2.2.2.2.2.2.2.2.2.1 g6.2.2.2.2.2.2.2.2.2.2.1 g6.2.2.2.2.2.2.2.2.2.2.2.1 g6.2.2.2.2.2.2.2.2.2.2.2.2.1 g6.2.2.2.2.2.2.2.2.2.2.2.2.2.1 g6.2.2.2.2.2.2.2.2.2.2.2.2.2.2.1 g6.2.2.2.2.2.2.2.2.2.2.2.2.2.2.2.1 g6.2.2.2.2.2.2.2.2.2.2.2.2.2.2.2.2.1 g6.2.2.2.2.2.2.2.2.2.2.2.2.2.2.2.2.2.1 g6.2.2.2.2.2.2.2.2.2.2.2.2.2.2.2.2.2.2.1 g6.2.2.2.2.2.2.2.2.2.2.2.2.2.2.2.2.2.2.2))))))))
def fX2_tell (a_length : Int32) (a_text : Nat → Int32) (a_number : Nat → Int32) (a_numbers : Int32) (b_villages : Int32) (b_woods : Int32) (b_needs : Int32) (b_signs : Int32) (b_temper : Nat → Int32) (b_friend : Nat → Int32) (b_rope : Nat → Int32) (b_hears : Nat → Int32) (b_shut : Nat → Int32) (b_woodBell : Nat → Int32) (b_woodVillage : Nat → Int32) (b_needVillage : Nat → Int32) (b_needWind : Nat → Int32) (b_needSeen : Nat → Int32) : Option (Int32 × (Nat → Int32) × Int32 × Int32 × Int32 × Int32 × Int32 × Int32 × Int32 × Int32 × (Nat → Int32) × (Nat → Int32) × (Nat → Int32) × (Nat → Int32) × (Nat → Int32) × (Nat → Int32) × (Nat → Int32) × (Nat → Int32) × (Nat → Int32) × (Nat → Int32)) := (fX2_tell_19 a_length a_text (fun x2_19_8 x3_19_9 a_number_19_10 a_word_19_11 a_numbers_19_12 a_items_19_13 a_refused_19_14 b_villages_19_15 b_woods_19_16 b_needs_19_17 b_signs_19_18 b_temper_19_19 b_friend_19_20 b_rope_19_21 b_hears_19_22 b_shut_19_23 b_woodBell_19_24 b_woodVillage_19_25 b_needVillage_19_26 b_needWind_19_27 b_needSeen_19_28 => (if a_items_19_13 = 0 then some ((((-10)) - a_length, a_number_19_10, a_word_19_11, a_numbers_19_12, a_items_19_13, a_refused_19_14, b_villages_19_15, b_woods_19_16, b_needs_19_17, b_signs_19_18, b_temper_19_19, b_friend_19_20, b_rope_19_21, b_hears_19_22, b_shut_19_23, b_woodBell_19_24, b_woodVillage_19_25, b_needVillage_19_26, b_needWind_19_27, b_needSeen_19_28)) else (if a_word_19_11 = ((-1)) then (if a_refused_19_14 = ((-1)) then some ((a_items_19_13, a_number_19_10, a_word_19_11, a_numbers_19_12, a_items_19_13, a_refused_19_14, b_villages_19_15, b_woods_19_16, b_needs_19_17, b_signs_19_18, b_temper_19_19, b_friend_19_20, b_rope_19_21, b_hears_19_22, b_shut_19_23, b_woodBell_19_24, b_woodVillage_19_25, b_needVillage_19_26, b_needWind_19_27, b_needSeen_19_28)) else some ((((-1000)) - a_refused_19_14, a_number_19_10, a_word_19_11, a_numbers_19_12, a_items_19_13, a_refused_19_14, b_villages_19_15, b_woods_19_16, b_needs_19_17, b_signs_19_18, b_temper_19_19, b_friend_19_20, b_rope_19_21, b_hears_19_22, b_shut_19_23, b_woodBell_19_24, b_woodVillage_19_25, b_needVillage_19_26, b_needWind_19_27, b_needSeen_19_28))) else some ((((-10)) - a_length, a_number_19_10, a_word_19_11, a_numbers_19_12, a_items_19_13, a_refused_19_14, b_villages_19_15, b_woods_19_16, b_needs_19_17, b_signs_19_18, b_temper_19_19, b_friend_19_20, b_rope_19_21, b_hears_19_22, b_shut_19_23, b_woodBell_19_24, b_woodVillage_19_25, b_needVillage_19_26, b_needWind_19_27, b_needSeen_19_28))))) fu 0 0 a_number ((-1)) a_numbers 0 ((-1)) b_villages b_woods b_needs b_signs b_temper b_friend b_rope b_hears b_shut b_woodBell b_woodVillage b_needVillage b_needWind b_needSeen)

/-! RX3 copy(LBlindBells$Valley;)V -/
def fX3_copy (a_temper : Nat → Int32) (a_friend : Nat → Int32) (a_rope : Nat → Int32) (a_hears : Nat → Int32) (a_shut : Nat → Int32) (a_woodBell : Nat → Int32) (a_woodVillage : Nat → Int32) (a_needVillage : Nat → Int32) (a_needWind : Nat → Int32) (a_needSeen : Nat → Int32) (a_sign : Nat → Int32) (b_villages : Int32) (b_woods : Int32) (b_needs : Int32) (b_signs : Int32) (b_temper : Nat → Int32) (b_friend : Nat → Int32) (b_rope : Nat → Int32) (b_hears : Nat → Int32) (b_shut : Nat → Int32) (b_woodBell : Nat → Int32) (b_woodVillage : Nat → Int32) (b_needVillage : Nat → Int32) (b_needWind : Nat → Int32) (b_needSeen : Nat → Int32) (b_sign : Nat → Int32) : Option (Int32 × Int32 × Int32 × Int32 × (Nat → Int32) × (Nat → Int32) × (Nat → Int32) × (Nat → Int32) × (Nat → Int32) × (Nat → Int32) × (Nat → Int32) × (Nat → Int32) × (Nat → Int32) × (Nat → Int32) × (Nat → Int32)) := some ((b_villages, b_woods, b_needs, b_signs, cpI 6 b_temper a_temper, cpI 6 b_friend a_friend, cpI 6 b_rope a_rope, cpI 24 b_hears a_hears, cpI 6 b_shut a_shut, cpI 8 b_woodBell a_woodBell, cpI 8 b_woodVillage a_woodVillage, cpI 12 b_needVillage a_needVillage, cpI 12 b_needWind a_needWind, cpI 12 b_needSeen a_needSeen, cpI 6 b_sign a_sign))

/-! RX3 changeRopes(II)I -/
def fX3_changeRopes (a_villages : Int32) (a_rope : Nat → Int32) (p0 : Int32) (p1 : Int32) : Option (Int32 × (Nat → Int32)) := (fX3_areTwo a_villages p0 p1).bind (fun g1 => (if g1 = 0 then some (((-2), a_rope)) else (rdI 6 a_rope p0).bind (fun z3 => (rdI 6 a_rope p1).bind (fun z4 => (wrI 6 a_rope p0 z4).bind (fun u5 => (wrI 6 u5 p1 z3).bind (fun u6 => some ((1, u6))))))))

/-! RX3 dropNeed()I -/
def fX3_dropNeed (a_needs : Int32) : Option (Int32 × Int32) := (if 0 < a_needs then some ((a_needs - 1, a_needs - 1)) else some (((-3), a_needs)))

/-! RX3 signOf(I)I -/
def fX3_signOf_2 (p0 : Int32) (a_signs : Int32) (a_sign : Nat → Int32) (kx : Int32 → Option (Int32)) : Nat → Int32 → Option (Int32)
  | 0, _ => none
  | n + 1, x2_2 => (if a_signs ≤ x2_2 then (kx x2_2) else (rdI 6 a_sign x2_2).bind (fun z2 => (if z2 = p0 then some x2_2 else (fX3_signOf_2 p0 a_signs a_sign kx n (x2_2 + 1)))))
def fX3_signOf (a_signs : Int32) (a_sign : Nat → Int32) (p0 : Int32) : Option (Int32) := (fX3_signOf_2 p0 a_signs a_sign (fun x2_2_4 => some ((-1))) fu 0 )

/-! RX3 addSign(I)I -/
def fX3_addSign (a_signs : Int32) (a_sign : Nat → Int32) (p0 : Int32) : Option (Int32 × Int32 × (Nat → Int32)) := (if p0 < 1 then some (((-2), a_signs, a_sign)) else (if 255 < p0 then some (((-2), a_signs, a_sign)) else (fX3_signOf a_signs a_sign p0).bind (fun g3 => (if g3 = ((-1)) then (if a_signs < 6 then (wrI 6 a_sign a_signs p0).bind (fun u6 => some ((a_signs, a_signs + 1, u6))) else some (((-4), a_signs, a_sign))) else some (((-2), a_signs, a_sign))))))

/-! RX3 dueFor(I)I -/
def fX3_dueFor_4 (p0 : Int32) (a_villages : Int32) (a_rope : Nat → Int32) (a_hears : Nat → Int32) (a_shut : Nat → Int32) (a_needVillage : Nat → Int32) (a_needWind : Nat → Int32) (kx : Int32 → Int32 → Option (Int32)) : Nat → Int32 → Int32 → Option (Int32)
  | 0, _, _ => none
  | n + 1, x2_4, x3_4 => (if a_villages ≤ x3_4 then (kx x2_4 x3_4) else (rdI 12 a_needWind p0).bind (fun z2 => (fX3_heardIn a_hears a_shut x3_4 z2).bind (fun g3 => (rdI 12 a_needVillage p0).bind (fun z4 => (fX6_has g3 z4).bind (fun g5 => (if g5 = 0 then (fX3_dueFor_4 p0 a_villages a_rope a_hears a_shut a_needVillage a_needWind kx n x2_4 (x3_4 + 1)) else (rdI 6 a_rope x3_4).bind (fun z7 => (fX3_dueFor_4 p0 a_villages a_rope a_hears a_shut a_needVillage a_needWind kx n (x2_4 ||| (1 <<< (z7 &&& 31))) (x3_4 + 1)))))))))
def fX3_dueFor (a_villages : Int32) (a_rope : Nat → Int32) (a_hears : Nat → Int32) (a_shut : Nat → Int32) (a_needVillage : Nat → Int32) (a_needWind : Nat → Int32) (a_needSeen : Nat → Int32) (p0 : Int32) : Option (Int32) := (fX3_dueFor_4 p0 a_villages a_rope a_hears a_shut a_needVillage a_needWind (fun x2_4_8 x3_4_9 => (rdI 12 a_needSeen p0).bind (fun z10 => some (x2_4_8 &&& z10))) fu 0 0 )

/-! RX3 knowAfterRound(II)I -/
def fX3_knowAfterRound_5 (p0 : Int32) (p1 : Int32) (a_villages : Int32) (a_rope : Nat → Int32) (a_hears : Nat → Int32) (a_shut : Nat → Int32) (kx : Int32 → Int32 → Option (Int32)) : Nat → Int32 → Int32 → Option (Int32)
  | 0, _, _ => none
  | n + 1, x3_5, x4_5 => (if a_villages ≤ x4_5 then (kx x3_5 x4_5) else (rdI 6 a_rope x4_5).bind (fun z2 => (fX6_has p0 z2).bind (fun g3 => (if g3 = 0 then (fX3_knowAfterRound_5 p0 p1 a_villages a_rope a_hears a_shut kx n x3_5 (x4_5 + 1)) else (fX3_heardIn a_hears a_shut x4_5 p1).bind (fun g5 => (fX3_knowAfterRound_5 p0 p1 a_villages a_rope a_hears a_shut kx n (x3_5 ||| g5) (x4_5 + 1)))))))
def fX3_knowAfterRound (a_villages : Int32) (a_rope : Nat → Int32) (a_hears : Nat → Int32) (a_shut : Nat → Int32) (p0 : Int32) (p1 : Int32) : Option (Int32) := (fX3_knowAfterRound_5 p0 p1 a_villages a_rope a_hears a_shut (fun x3_5_6 x4_5_7 => some x3_5_6) fu p0 0 )

/-! RX3 canCome(III)Z -/
def fX3_canCome (a_villages : Int32) (p0 : Int32) (p1 : Int32) (p2 : Int32) : Option (Int32) := (fX6_isWind p0).bind (fun g1 => (if g1 = 0 then some 0 else (fX3_areBits a_villages p1).bind (fun g3 => (if g3 = 0 then some 0 else (fX3_areBits a_villages p2).bind (fun g5 => (if g5 = 0 then some 0 else (if (p1 &&& p2) = 0 then some 1 else some 0)))))))

/-! RX3 bellsFrom(III)I -/
def fX3_bellsFrom_6 (p0 : Int32) (p1 : Int32) (p2 : Int32) (a_villages : Int32) (a_hears : Nat → Int32) (a_shut : Nat → Int32) (kx : Int32 → Int32 → Option (Int32)) : Nat → Int32 → Int32 → Option (Int32)
  | 0, _, _ => none
  | n + 1, x4_6, x5_6 => (if a_villages ≤ x5_6 then (kx x4_6 x5_6) else (fX3_heardIn a_hears a_shut x5_6 p0).bind (fun g2 => (if (g2 &&& p1) = p1 then (if (g2 &&& p2) = 0 then (fX3_bellsFrom_6 p0 p1 p2 a_villages a_hears a_shut kx n (x4_6 ||| (1 <<< (x5_6 &&& 31))) (x5_6 + 1)) else (fX3_bellsFrom_6 p0 p1 p2 a_villages a_hears a_shut kx n x4_6 (x5_6 + 1))) else (fX3_bellsFrom_6 p0 p1 p2 a_villages a_hears a_shut kx n x4_6 (x5_6 + 1)))))
def fX3_bellsFrom (a_villages : Int32) (a_hears : Nat → Int32) (a_shut : Nat → Int32) (p0 : Int32) (p1 : Int32) (p2 : Int32) : Option (Int32) := (fX3_bellsFrom_6 p0 p1 p2 a_villages a_hears a_shut (fun x4_6_5 x5_6_6 => some x4_6_5) fu 0 0 )

/-! RX3 bellsHeardAt(II)I -/
def fX3_bellsHeardAt (a_villages : Int32) (a_hears : Nat → Int32) (a_shut : Nat → Int32) (p0 : Int32) (p1 : Int32) : Option (Int32) := (fX3_bellsFrom a_villages a_hears a_shut p1 (1 <<< (p0 &&& 31)) 0).bind (fun g1 => some g1)

/-! RX3 partsMostEvenly(III)I -/
def fX3_partsMostEvenly_9 (p0 : Int32) (p1 : Int32) (p2 : Int32) (a_villages : Int32) (a_hears : Nat → Int32) (a_shut : Nat → Int32) (kx : Int32 → Int32 → Int32 → Option (Int32)) : Nat → Int32 → Int32 → Int32 → Option (Int32)
  | 0, _, _, _ => none
  | n + 1, x4_9, x5_9, x6_9 => (if a_villages ≤ x6_9 then (kx x4_9 x5_9 x6_9) else (fX6_has p2 x6_9).bind (fun g2 => (if g2 = 0 then (fX3_bellsHeardAt a_villages a_hears a_shut x6_9 p0).bind (fun g4 => (fJ6_bitCount_0f7a4 (p1 &&& g4)).bind (fun g5 => (fJ6_bitCount_0f7a4 p1).bind (fun g6 => (if (if (g6 - g5) < g5 then (g6 - g5) else g5) ≤ x5_9 then (fX3_partsMostEvenly_9 p0 p1 p2 a_villages a_hears a_shut kx n x4_9 x5_9 (x6_9 + 1)) else (fX3_partsMostEvenly_9 p0 p1 p2 a_villages a_hears a_shut kx n x6_9 (if (g6 - g5) < g5 then (g6 - g5) else g5) (x6_9 + 1)))))) else (fX3_partsMostEvenly_9 p0 p1 p2 a_villages a_hears a_shut kx n x4_9 x5_9 (x6_9 + 1)))))
def fX3_partsMostEvenly (a_villages : Int32) (a_hears : Nat → Int32) (a_shut : Nat → Int32) (p0 : Int32) (p1 : Int32) (p2 : Int32) : Option (Int32) := (fX3_partsMostEvenly_9 p0 p1 p2 a_villages a_hears a_shut (fun x4_9_8 x5_9_9 x6_9_10 => some x4_9_8) fu ((-1)) 0 0 )

/-! RX3 firstTakenFor(II)I -/
def fX3_firstTakenFor_2 (p0 : Int32) (p1 : Int32) (a_signs : Int32) (a_sign : Nat → Int32) (kx : Int32 → Option (Int32)) : Nat → Int32 → Option (Int32)
  | 0, _ => none
  | n + 1, x3_2 => (if 3 < x3_2 then (kx x3_2) else (rdI 6 a_sign p0).bind (fun z2 => (rdI 6 a_sign p1).bind (fun z3 => (fX3_signOf a_signs a_sign ((z2 ||| (z3 <<< (x3_2 &&& 31))) &&& 255)).bind (fun g4 => (if g4 = ((-1)) then (fX3_firstTakenFor_2 p0 p1 a_signs a_sign kx n (x3_2 + 1)) else (if g4 = p0 then (fX3_firstTakenFor_2 p0 p1 a_signs a_sign kx n (x3_2 + 1)) else (if g4 = p1 then (fX3_firstTakenFor_2 p0 p1 a_signs a_sign kx n (x3_2 + 1)) else some ((10 * x3_2) + g4))))))))
def fX3_firstTakenFor (a_signs : Int32) (a_sign : Nat → Int32) (p0 : Int32) (p1 : Int32) : Option (Int32) := (fX3_firstTakenFor_2 p0 p1 a_signs a_sign (fun x3_2_8 => some ((-1))) fu 0 )

/-! RX3 digestFrom(J)J -/
def fX3_digestFrom_62 (a_hears : Nat → Int32) (x5_5 : Int32) (kx : Int64 → Int32 → Option (Int64)) : Nat → Int64 → Int32 → Option (Int64)
  | 0, _, _ => none
  | n + 1, x3_62, x6_62 => (if 4 ≤ x6_62 then (kx x3_62 x6_62) else (rdI 24 a_hears ((x5_5 * 4) + x6_62)).bind (fun z6 => (fX3_digestFrom_62 a_hears x5_5 kx n ((31 * x3_62) + z6.toInt64) (x6_62 + 1))))
def fX3_digestFrom_5 (a_villages : Int32) (a_temper : Nat → Int32) (a_friend : Nat → Int32) (a_rope : Nat → Int32) (a_hears : Nat → Int32) (kx : Int64 → Int32 → Option (Int64)) : Nat → Int64 → Int32 → Option (Int64)
  | 0, _, _ => none
  | n + 1, x3_5, x5_5 => (if a_villages ≤ x5_5 then (kx x3_5 x5_5) else (rdI 6 a_temper x5_5).bind (fun z2 => (rdI 6 a_friend x5_5).bind (fun z3 => (rdI 6 a_rope x5_5).bind (fun z4 => (fX3_digestFrom_62 a_hears x5_5 (fun x3_62_7 x6_62_8 => (fX3_digestFrom_5 a_villages a_temper a_friend a_rope a_hears kx n x3_62_7 (x5_5 + 1))) fu ((31 * ((31 * ((31 * x3_5) + z2.toInt64)) + z3.toInt64)) + z4.toInt64) 0 )))))
def fX3_digestFrom_103 (a_woods : Int32) (a_woodBell : Nat → Int32) (a_woodVillage : Nat → Int32) (kx : Int64 → Int32 → Option (Int64)) : Nat → Int64 → Int32 → Option (Int64)
  | 0, _, _ => none
  | n + 1, x3_103, x5_103 => (if a_woods ≤ x5_103 then (kx x3_103 x5_103) else (rdI 8 a_woodBell x5_103).bind (fun z12 => (rdI 8 a_woodVillage x5_103).bind (fun z13 => (fX3_digestFrom_103 a_woods a_woodBell a_woodVillage kx n ((31 * ((31 * x3_103) + z12.toInt64)) + z13.toInt64) (x5_103 + 1)))))
def fX3_digestFrom_151 (a_needs : Int32) (a_needVillage : Nat → Int32) (a_needWind : Nat → Int32) (a_needSeen : Nat → Int32) (kx : Int64 → Int32 → Option (Int64)) : Nat → Int64 → Int32 → Option (Int64)
  | 0, _, _ => none
  | n + 1, x3_151, x5_151 => (if a_needs ≤ x5_151 then (kx x3_151 x5_151) else (rdI 12 a_needVillage x5_151).bind (fun z17 => (rdI 12 a_needWind x5_151).bind (fun z18 => (rdI 12 a_needSeen x5_151).bind (fun z19 => (fX3_digestFrom_151 a_needs a_needVillage a_needWind a_needSeen kx n ((31 * ((31 * ((31 * x3_151) + z17.toInt64)) + z18.toInt64)) + z19.toInt64) (x5_151 + 1))))))
def fX3_digestFrom_214 (a_signs : Int32) (a_sign : Nat → Int32) (kx : Int64 → Int32 → Option (Int64)) : Nat → Int64 → Int32 → Option (Int64)
  | 0, _, _ => none
  | n + 1, x3_214, x5_214 => (if a_signs ≤ x5_214 then (kx x3_214 x5_214) else (rdI 6 a_sign x5_214).bind (fun z23 => (fX3_digestFrom_214 a_signs a_sign kx n ((31 * x3_214) + z23.toInt64) (x5_214 + 1))))
def fX3_digestFrom (a_villages : Int32) (a_woods : Int32) (a_needs : Int32) (a_signs : Int32) (a_temper : Nat → Int32) (a_friend : Nat → Int32) (a_rope : Nat → Int32) (a_hears : Nat → Int32) (a_woodBell : Nat → Int32) (a_woodVillage : Nat → Int32) (a_needVillage : Nat → Int32) (a_needWind : Nat → Int32) (a_needSeen : Nat → Int32) (a_sign : Nat → Int32) (p0 : Int64) : Option (Int64) := (fX3_digestFrom_5 a_villages a_temper a_friend a_rope a_hears (fun x3_5_9 x5_5_10 => (fX3_digestFrom_103 a_woods a_woodBell a_woodVillage (fun x3_103_14 x5_103_15 => (fX3_digestFrom_151 a_needs a_needVillage a_needWind a_needSeen (fun x3_151_20 x5_151_21 => (fX3_digestFrom_214 a_signs a_sign (fun x3_214_24 x5_214_25 => some x3_214_24) fu x3_151_20 0 )) fu x3_103_14 0 )) fu x3_5_9 0 )) fu p0 0 )

/-! RX4 wasRefused(II)Z -/
def fX4_wasRefused (a_last : Nat → Int32) (p0 : Int32) (p1 : Int32) : Option (Int32) := (fX6_pair p1 p0).bind (fun g1 => (rdI 36 a_last g1).bind (fun z2 => (if z2 = 0 then some 1 else some 0)))

/-! RX4 wasJustLetDown(LBlindBells$Valley;II)Z -/
def fX4_wasJustLetDown (a_rang : Nat → Int32) (b_needVillage : Nat → Int32) (p1 : Int32) (p2 : Int32) : Option (Int32) := (if p2 ≤ 0 then some 0 else (rdI 12 b_needVillage (p2 - 1)).bind (fun z2 => (if z2 = p1 then (rdI 12 a_rang (p2 - 1)).bind (fun z4 => (if z4 = 0 then some 1 else some 0)) else some 0)))

/-! RX4 rings(LBlindBells$Valley;II)Z -/
def fX4_rings (a_rang : Nat → Int32) (a_times : Nat → Int32) (a_last : Nat → Int32) (b_temper : Nat → Int32) (b_friend : Nat → Int32) (b_needVillage : Nat → Int32) (p1 : Int32) (p2 : Int32) : Option (Int32) := (rdI 12 b_needVillage p2).bind (fun z1 => (rdI 6 b_temper p1).bind (fun z2 => (if z2 = 1 then (fX4_wasRefused a_last p1 z1).bind (fun g4 => (if g4 = 0 then some 1 else some 0)) else (if z2 = 2 then (fX4_wasRefused a_last p1 z1).bind (fun g7 => (if g7 = 0 then (fX4_wasJustLetDown a_rang b_needVillage p1 p2).bind (fun g9 => (if g9 = 0 then some 1 else some 0)) else some 0)) else (if z2 = 3 then (rdI 6 b_friend p1).bind (fun z12 => (if z12 = z1 then some 1 else (fX4_wasRefused a_last p1 z1).bind (fun g14 => (if g14 = 0 then some 1 else some 0)))) else (if z2 = 4 then (fX6_pair p1 z1).bind (fun g17 => (rdI 36 a_times g17).bind (fun z18 => (fX6_pair z1 p1).bind (fun g19 => (rdI 36 a_times g19).bind (fun z20 => (if z20 ≤ z18 then some 0 else some 1))))) else some 1))))))

/-! RX4 whoRings(LBlindBells$Valley;I)I -/
def fX4_whoRings_5 (p1 : Int32) (a_due : Nat → Int32) (a_rang : Nat → Int32) (a_times : Nat → Int32) (a_last : Nat → Int32) (b_villages : Int32) (b_temper : Nat → Int32) (b_friend : Nat → Int32) (b_needVillage : Nat → Int32) (kx : Int32 → Int32 → Option (Int32)) : Nat → Int32 → Int32 → Option (Int32)
  | 0, _, _ => none
  | n + 1, x3_5, x4_5 => (if b_villages ≤ x4_5 then (kx x3_5 x4_5) else (rdI 12 a_due p1).bind (fun z2 => (fX6_has z2 x4_5).bind (fun g3 => (if g3 = 0 then (fX4_whoRings_5 p1 a_due a_rang a_times a_last b_villages b_temper b_friend b_needVillage kx n x3_5 (x4_5 + 1)) else (fX4_rings a_rang a_times a_last b_temper b_friend b_needVillage x4_5 p1).bind (fun g5 => (if g5 = 0 then (fX4_whoRings_5 p1 a_due a_rang a_times a_last b_villages b_temper b_friend b_needVillage kx n x3_5 (x4_5 + 1)) else (fX4_whoRings_5 p1 a_due a_rang a_times a_last b_villages b_temper b_friend b_needVillage kx n (x3_5 ||| (1 <<< (x4_5 &&& 31))) (x4_5 + 1))))))))
def fX4_whoRings (a_due : Nat → Int32) (a_rang : Nat → Int32) (a_times : Nat → Int32) (a_last : Nat → Int32) (b_villages : Int32) (b_temper : Nat → Int32) (b_friend : Nat → Int32) (b_needVillage : Nat → Int32) (p1 : Int32) : Option (Int32) := (fX4_whoRings_5 p1 a_due a_rang a_times a_last b_villages b_temper b_friend b_needVillage (fun x3_5_7 x4_5_8 => some x3_5_7) fu 0 0 )

/-! RX4 remember(LBlindBells$Valley;I)V -/
def fX4_remember_10 (p1 : Int32) (a_due : Nat → Int32) (a_rang : Nat → Int32) (b_villages : Int32) (z1 : Int32) (kx : Int32 → (Nat → Int32) → (Nat → Int32) → Option ((Nat → Int32) × (Nat → Int32))) : Nat → Int32 → (Nat → Int32) → (Nat → Int32) → Option ((Nat → Int32) × (Nat → Int32))
  | 0, _, _, _ => none
  | n + 1, x4_10, a_times_10, a_last_10 => (if b_villages ≤ x4_10 then (kx x4_10 a_times_10 a_last_10) else (rdI 12 a_due p1).bind (fun z3 => (fX6_has z3 x4_10).bind (fun g4 => (if g4 = 0 then (fX4_remember_10 p1 a_due a_rang b_villages z1 kx n (x4_10 + 1) a_times_10 a_last_10) else (rdI 12 a_rang p1).bind (fun z6 => (fX6_has z6 x4_10).bind (fun g7 => (if g7 = 0 then some 0 else some 1 : Option (Int32)).bind (fun f9 => (fX6_pair x4_10 z1).bind (fun g10 => (rdI 36 a_times_10 g10).bind (fun z11 => (wrI 36 a_times_10 g10 (z11 + f9)).bind (fun u12 => (fX6_pair x4_10 z1).bind (fun g13 => (wrI 36 a_last_10 g13 f9).bind (fun u14 => (fX4_remember_10 p1 a_due a_rang b_villages z1 kx n (x4_10 + 1) u12 u14)))))))))))))
def fX4_remember (a_due : Nat → Int32) (a_rang : Nat → Int32) (a_times : Nat → Int32) (a_last : Nat → Int32) (b_villages : Int32) (b_needVillage : Nat → Int32) (p1 : Int32) : Option ((Nat → Int32) × (Nat → Int32)) := (rdI 12 b_needVillage p1).bind (fun z1 => (fX4_remember_10 p1 a_due a_rang b_villages z1 (fun x4_10_15 a_times_10_16 a_last_10_17 => some ((a_times_10_16, a_last_10_17))) fu 0 a_times a_last))

/-! RX4 go(LBlindBells$Valley;)V -/
def fX4_go_18 (b_villages : Int32) (b_needs : Int32) (b_temper : Nat → Int32) (b_friend : Nat → Int32) (b_rope : Nat → Int32) (b_hears : Nat → Int32) (b_shut : Nat → Int32) (b_needVillage : Nat → Int32) (b_needWind : Nat → Int32) (b_needSeen : Nat → Int32) (kx : Int32 → (Nat → Int32) → (Nat → Int32) → (Nat → Int32) → (Nat → Int32) → Option ((Nat → Int32) × (Nat → Int32) × (Nat → Int32) × (Nat → Int32))) : Nat → Int32 → (Nat → Int32) → (Nat → Int32) → (Nat → Int32) → (Nat → Int32) → Option ((Nat → Int32) × (Nat → Int32) × (Nat → Int32) × (Nat → Int32))
  | 0, _, _, _, _, _ => none
  | n + 1, x2_18, a_due_18, a_rang_18, a_times_18, a_last_18 => (if b_needs ≤ x2_18 then (kx x2_18 a_due_18 a_rang_18 a_times_18 a_last_18) else (fX3_dueFor b_villages b_rope b_hears b_shut b_needVillage b_needWind b_needSeen x2_18).bind (fun g4 => (wrI 12 a_due_18 x2_18 g4).bind (fun u5 => (fX4_whoRings u5 a_rang_18 a_times_18 a_last_18 b_villages b_temper b_friend b_needVillage x2_18).bind (fun g6 => (wrI 12 a_rang_18 x2_18 g6).bind (fun u7 => (fX4_remember u5 u7 a_times_18 a_last_18 b_villages b_needVillage x2_18).bind (fun g8 => (fX4_go_18 b_villages b_needs b_temper b_friend b_rope b_hears b_shut b_needVillage b_needWind b_needSeen kx n (x2_18 + 1) u5 u7 g8.1 g8.2)))))))
def fX4_go (a_due : Nat → Int32) (a_rang : Nat → Int32) (a_times : Nat → Int32) (a_last : Nat → Int32) (b_villages : Int32) (b_needs : Int32) (b_temper : Nat → Int32) (b_friend : Nat → Int32) (b_rope : Nat → Int32) (b_hears : Nat → Int32) (b_shut : Nat → Int32) (b_needVillage : Nat → Int32) (b_needWind : Nat → Int32) (b_needSeen : Nat → Int32) : Option ((Nat → Int32) × (Nat → Int32) × (Nat → Int32) × (Nat → Int32)) := (fJ7_fill_53178 36 a_times 0).bind (fun g1 => (fJ7_fill_53178 36 a_last ((-1))).bind (fun g2 => (fX4_go_18 b_villages b_needs b_temper b_friend b_rope b_hears b_shut b_needVillage b_needWind b_needSeen (fun x2_18_9 a_due_18_10 a_rang_18_11 a_times_18_12 a_last_18_13 => some ((a_due_18_10, a_rang_18_11, a_times_18_12, a_last_18_13))) fu 0 a_due a_rang g1 g2)))

/-! RX4 needsHelped(LBlindBells$Valley;I)I -/
def fX4_needsHelped_5 (p1 : Int32) (a_rang : Nat → Int32) (b_needs : Int32) (b_needVillage : Nat → Int32) (kx : Int32 → Int32 → Option (Int32)) : Nat → Int32 → Int32 → Option (Int32)
  | 0, _, _ => none
  | n + 1, x3_5, x4_5 => (if b_needs ≤ x4_5 then (kx x3_5 x4_5) else (if p1 = ((-1)) then some 1 else (rdI 12 b_needVillage x4_5).bind (fun z4 => (if z4 = p1 then some 1 else some 0)) : Option (Int32)).bind (fun f3 => (if f3 = 0 then (fX4_needsHelped_5 p1 a_rang b_needs b_needVillage kx n x3_5 (x4_5 + 1)) else (rdI 12 a_rang x4_5).bind (fun z7 => (if z7 = 0 then (fX4_needsHelped_5 p1 a_rang b_needs b_needVillage kx n x3_5 (x4_5 + 1)) else (fX4_needsHelped_5 p1 a_rang b_needs b_needVillage kx n (x3_5 + 1) (x4_5 + 1)))))))
def fX4_needsHelped (a_rang : Nat → Int32) (b_needs : Int32) (b_needVillage : Nat → Int32) (p1 : Int32) : Option (Int32) := (fX4_needsHelped_5 p1 a_rang b_needs b_needVillage (fun x3_5_9 x4_5_10 => some x3_5_9) fu 0 0 )

/-! RX5 meetsOne(LBlindBells$Valley;II)Z -/
def fX5_meetsOne_11 (p1 : Int32) (p2 : Int32) (a_between : Nat → Int32) (b_villages : Int32) (b_rope : Nat → Int32) (b_hears : Nat → Int32) (b_needWind : Nat → Int32) (b_needSeen : Nat → Int32) (z1 : Int32) (kx : Int32 → Option (Int32)) : Nat → Int32 → Option (Int32)
  | 0, _ => none
  | n + 1, x5_11 => (if b_villages ≤ x5_11 then (kx x5_11) else (rdI 12 b_needSeen p1).bind (fun z3 => (rdI 6 b_rope x5_11).bind (fun z4 => (fX6_has z3 z4).bind (fun g5 => (rdI 12 b_needWind p1).bind (fun z6 => (rdI 24 b_hears ((x5_11 * 4) + z6)).bind (fun z7 => (fX6_has z7 z1).bind (fun g8 => (if g5 = 0 then (fX5_meetsOne_11 p1 p2 a_between b_villages b_rope b_hears b_needWind b_needSeen z1 kx n (x5_11 + 1)) else (if g8 = 0 then (fX5_meetsOne_11 p1 p2 a_between b_villages b_rope b_hears b_needWind b_needSeen z1 kx n (x5_11 + 1)) else (fX6_pair x5_11 z1).bind (fun g11 => (rdI 36 a_between g11).bind (fun z12 => (if (z12 &&& (p2 ^^^ ((-1)))) = 0 then some 1 else (fX5_meetsOne_11 p1 p2 a_between b_villages b_rope b_hears b_needWind b_needSeen z1 kx n (x5_11 + 1))))))))))))))
def fX5_meetsOne (a_between : Nat → Int32) (b_villages : Int32) (b_rope : Nat → Int32) (b_hears : Nat → Int32) (b_needVillage : Nat → Int32) (b_needWind : Nat → Int32) (b_needSeen : Nat → Int32) (p1 : Int32) (p2 : Int32) : Option (Int32) := (rdI 12 b_needVillage p1).bind (fun z1 => (fX5_meetsOne_11 p1 p2 a_between b_villages b_rope b_hears b_needWind b_needSeen z1 (fun x5_11_14 => some 0) fu 0 ))

/-! RX5 meetsAll(LBlindBells$Valley;I)Z -/
def fX5_meetsAll_2 (p1 : Int32) (a_between : Nat → Int32) (b_villages : Int32) (b_needs : Int32) (b_rope : Nat → Int32) (b_hears : Nat → Int32) (b_needVillage : Nat → Int32) (b_needWind : Nat → Int32) (b_needSeen : Nat → Int32) (kx : Int32 → Option (Int32)) : Nat → Int32 → Option (Int32)
  | 0, _ => none
  | n + 1, x3_2 => (if b_needs ≤ x3_2 then (kx x3_2) else (fX5_meetsOne a_between b_villages b_rope b_hears b_needVillage b_needWind b_needSeen x3_2 p1).bind (fun g2 => (if g2 = 0 then some 0 else (fX5_meetsAll_2 p1 a_between b_villages b_needs b_rope b_hears b_needVillage b_needWind b_needSeen kx n (x3_2 + 1)))))
def fX5_meetsAll (a_between : Nat → Int32) (b_villages : Int32) (b_needs : Int32) (b_rope : Nat → Int32) (b_hears : Nat → Int32) (b_needVillage : Nat → Int32) (b_needWind : Nat → Int32) (b_needSeen : Nat → Int32) (p1 : Int32) : Option (Int32) := (fX5_meetsAll_2 p1 a_between b_villages b_needs b_rope b_hears b_needVillage b_needWind b_needSeen (fun x3_2_4 => some 1) fu 0 )

/-! RX5 go(LBlindBells$Valley;)I -/
def fX5_go_10 (b_woods : Int32) (b_woodBell : Nat → Int32) (b_woodVillage : Nat → Int32) (kx : Int32 → (Nat → Int32) → Option (Int32 × (Nat → Int32))) : Nat → Int32 → (Nat → Int32) → Option (Int32 × (Nat → Int32))
  | 0, _, _ => none
  | n + 1, x2_10, a_between_10 => (if b_woods ≤ x2_10 then (kx x2_10 a_between_10) else (rdI 8 b_woodBell x2_10).bind (fun z3 => (rdI 8 b_woodVillage x2_10).bind (fun z4 => (fX6_pair z3 z4).bind (fun g5 => (rdI 36 a_between_10 g5).bind (fun z6 => (wrI 36 a_between_10 g5 (z6 ||| (1 <<< (x2_10 &&& 31)))).bind (fun u7 => (fX5_go_10 b_woods b_woodBell b_woodVillage kx n (x2_10 + 1) u7)))))))
def fX5_go_58 (b_villages : Int32) (b_woods : Int32) (b_needs : Int32) (b_rope : Nat → Int32) (b_hears : Nat → Int32) (b_needVillage : Nat → Int32) (b_needWind : Nat → Int32) (b_needSeen : Nat → Int32) (a_between_10_9 : Nat → Int32) (kx : Int32 → Int32 → Int32 → Option (Int32 × (Nat → Int32))) : Nat → Int32 → Int32 → Int32 → Option (Int32 × (Nat → Int32))
  | 0, _, _, _ => none
  | n + 1, x2_58, x3_58, x4_58 => (if (1 <<< (b_woods &&& 31)) ≤ x4_58 then (kx x2_58 x3_58 x4_58) else (fJ6_bitCount_0f7a4 x4_58).bind (fun g11 => (if x3_58 ≤ g11 then (fX5_go_58 b_villages b_woods b_needs b_rope b_hears b_needVillage b_needWind b_needSeen a_between_10_9 kx n x2_58 x3_58 (x4_58 + 1)) else (fX5_meetsAll a_between_10_9 b_villages b_needs b_rope b_hears b_needVillage b_needWind b_needSeen x4_58).bind (fun g13 => (if g13 = 0 then (fX5_go_58 b_villages b_woods b_needs b_rope b_hears b_needVillage b_needWind b_needSeen a_between_10_9 kx n x2_58 x3_58 (x4_58 + 1)) else (fJ6_bitCount_0f7a4 x4_58).bind (fun g15 => (fX5_go_58 b_villages b_woods b_needs b_rope b_hears b_needVillage b_needWind b_needSeen a_between_10_9 kx n x4_58 g15 (x4_58 + 1))))))))
def fX5_go (a_between : Nat → Int32) (b_villages : Int32) (b_woods : Int32) (b_needs : Int32) (b_rope : Nat → Int32) (b_hears : Nat → Int32) (b_woodBell : Nat → Int32) (b_woodVillage : Nat → Int32) (b_needVillage : Nat → Int32) (b_needWind : Nat → Int32) (b_needSeen : Nat → Int32) : Option (Int32 × (Nat → Int32)) := (fJ7_fill_53178 36 a_between 0).bind (fun g1 => (fX5_go_10 b_woods b_woodBell b_woodVillage (fun x2_10_8 a_between_10_9 => (fX5_go_58 b_villages b_woods b_needs b_rope b_hears b_needVillage b_needWind b_needSeen a_between_10_9 (fun x2_58_16 x3_58_17 x4_58_18 => some ((x2_58_16, a_between_10_9))) fu ((-1)) 9 0 )) fu 0 g1))

/-! RX6 counted(I)I -/
def fX6_counted (a_refusedBad : Int32) (a_refusedNo : Int32) (a_refusedFull : Int32) (p0 : Int32) : Option (Int32 × Int32 × Int32 × Int32) := (if p0 = ((-2)) then some ((p0, a_refusedBad + 1, a_refusedNo, a_refusedFull)) else (if p0 = ((-3)) then some ((p0, a_refusedBad, a_refusedNo + 1, a_refusedFull)) else (if p0 = ((-4)) then some ((p0, a_refusedBad, a_refusedNo, a_refusedFull + 1)) else some ((p0, a_refusedBad, a_refusedNo, a_refusedFull)))))

/-! RX6 villages(I)I -/
def fX6_villages (a_refusedBad : Int32) (a_refusedNo : Int32) (a_refusedFull : Int32) (va_villages : Int32) (va_woods : Int32) (va_needs : Int32) (va_signs : Int32) (va_temper : Nat → Int32) (va_friend : Nat → Int32) (va_rope : Nat → Int32) (va_hears : Nat → Int32) (va_shut : Nat → Int32) (p0 : Int32) : Option (Int32 × Int32 × Int32 × Int32 × Int32 × Int32 × Int32 × Int32 × (Nat → Int32) × (Nat → Int32) × (Nat → Int32) × (Nat → Int32) × (Nat → Int32)) := (fX3_settle va_villages va_woods va_needs va_signs va_temper va_friend va_rope va_hears va_shut p0).bind (fun g1 => (if g1.1 = 0 then some ((-2)) else some va_villages : Option (Int32)).bind (fun f3 => (fX6_counted a_refusedBad a_refusedNo a_refusedFull f3).bind (fun g4 => some ((g4.1, g4.2.1, g4.2.2.1, g4.2.2.2, g1.2.1, g1.2.2.1, g1.2.2.2.1, g1.2.2.2.2.1, g1.2.2.2.2.2.1, g1.2.2.2.2.2.2.1, g1.2.2.2.2.2.2.2.1, g1.2.2.2.2.2.2.2.2.1, g1.2.2.2.2.2.2.2.2.2)))))

/-! RX6 hears(IIIZ)I -/
def fX6_hears (a_refusedBad : Int32) (a_refusedNo : Int32) (a_refusedFull : Int32) (va_villages : Int32) (va_hears : Nat → Int32) (p0 : Int32) (p1 : Int32) (p2 : Int32) (p3 : Int32) : Option (Int32 × Int32 × Int32 × Int32 × (Nat → Int32)) := (fX3_setHears va_villages va_hears p0 p1 p2 p3).bind (fun g1 => (fX6_counted a_refusedBad a_refusedNo a_refusedFull g1.1).bind (fun g2 => some ((g2.1, g2.2.1, g2.2.2.1, g2.2.2.2, g1.2))))

/-! RX6 wood(II)I -/
def fX6_wood (a_refusedBad : Int32) (a_refusedNo : Int32) (a_refusedFull : Int32) (va_villages : Int32) (va_woods : Int32) (va_shut : Nat → Int32) (va_woodBell : Nat → Int32) (va_woodVillage : Nat → Int32) (p0 : Int32) (p1 : Int32) : Option (Int32 × Int32 × Int32 × Int32 × Int32 × (Nat → Int32) × (Nat → Int32) × (Nat → Int32)) := (fX3_addWood va_villages va_woods va_shut va_woodBell va_woodVillage p0 p1).bind (fun g1 => (fX6_counted a_refusedBad a_refusedNo a_refusedFull g1.1).bind (fun g2 => some ((g2.1, g2.2.1, g2.2.2.1, g2.2.2.2, g1.2.1, g1.2.2.1, g1.2.2.2.1, g1.2.2.2.2))))

/-! RX6 temper(II)I -/
def fX6_temper (a_refusedBad : Int32) (a_refusedNo : Int32) (a_refusedFull : Int32) (va_villages : Int32) (va_temper : Nat → Int32) (p0 : Int32) (p1 : Int32) : Option (Int32 × Int32 × Int32 × Int32 × (Nat → Int32)) := (fX3_setTemper va_villages va_temper p0 p1).bind (fun g1 => (fX6_counted a_refusedBad a_refusedNo a_refusedFull g1.1).bind (fun g2 => some ((g2.1, g2.2.1, g2.2.2.1, g2.2.2.2, g1.2))))

/-! RX6 friendOf(II)I -/
def fX6_friendOf (a_refusedBad : Int32) (a_refusedNo : Int32) (a_refusedFull : Int32) (va_villages : Int32) (va_friend : Nat → Int32) (p0 : Int32) (p1 : Int32) : Option (Int32 × Int32 × Int32 × Int32 × (Nat → Int32)) := (fX3_setFriend va_villages va_friend p0 p1).bind (fun g1 => (fX6_counted a_refusedBad a_refusedNo a_refusedFull g1.1).bind (fun g2 => some ((g2.1, g2.2.1, g2.2.2.1, g2.2.2.2, g1.2))))

/-! RX6 change(II)I -/
def fX6_change (a_refusedBad : Int32) (a_refusedNo : Int32) (a_refusedFull : Int32) (va_villages : Int32) (va_rope : Nat → Int32) (p0 : Int32) (p1 : Int32) : Option (Int32 × Int32 × Int32 × Int32 × (Nat → Int32)) := (fX3_changeRopes va_villages va_rope p0 p1).bind (fun g1 => (fX6_counted a_refusedBad a_refusedNo a_refusedFull g1.1).bind (fun g2 => some ((g2.1, g2.2.1, g2.2.2.1, g2.2.2.2, g1.2))))

/-! RX6 need(III)I -/
def fX6_need (a_refusedBad : Int32) (a_refusedNo : Int32) (a_refusedFull : Int32) (va_villages : Int32) (va_needs : Int32) (va_needVillage : Nat → Int32) (va_needWind : Nat → Int32) (va_needSeen : Nat → Int32) (p0 : Int32) (p1 : Int32) (p2 : Int32) : Option (Int32 × Int32 × Int32 × Int32 × Int32 × (Nat → Int32) × (Nat → Int32) × (Nat → Int32)) := (fX3_addNeed va_villages va_needs va_needVillage va_needWind va_needSeen p0 p1 p2).bind (fun g1 => (fX6_counted a_refusedBad a_refusedNo a_refusedFull g1.1).bind (fun g2 => some ((g2.1, g2.2.1, g2.2.2.1, g2.2.2.2, g1.2.1, g1.2.2.1, g1.2.2.2.1, g1.2.2.2.2))))

/-! RX6 undo()I -/
def fX6_undo (a_refusedBad : Int32) (a_refusedNo : Int32) (a_refusedFull : Int32) (va_needs : Int32) : Option (Int32 × Int32 × Int32 × Int32 × Int32) := (fX3_dropNeed va_needs).bind (fun g1 => (fX6_counted a_refusedBad a_refusedNo a_refusedFull g1.1).bind (fun g2 => some ((g2.1, g2.2.1, g2.2.2.1, g2.2.2.2, g1.2))))

/-! RX6 heard(II)I -/
def fX6_heard (a_refusedBad : Int32) (a_refusedNo : Int32) (a_refusedFull : Int32) (va_villages : Int32) (va_hears : Nat → Int32) (va_shut : Nat → Int32) (p0 : Int32) (p1 : Int32) : Option (Int32 × Int32 × Int32 × Int32) := (fX3_isVillage va_villages p0).bind (fun g1 => (if g1 = 0 then some ((-2)) else (fX6_isWind p1).bind (fun g4 => (if g4 = 0 then some ((-2)) else (fX3_heardIn va_hears va_shut p0 p1).bind (fun g6 => some g6))) : Option (Int32)).bind (fun f3 => (fX6_counted a_refusedBad a_refusedNo a_refusedFull f3).bind (fun g7 => some ((g7.1, g7.2.1, g7.2.2.1, g7.2.2.2)))))

/-! RX6 type(JI)I -/
def fX6_type (a_refusedBad : Int32) (a_refusedNo : Int32) (a_refusedFull : Int32) (ta_length : Int32) (ta_text : Nat → Int32) (p0 : Int64) (p1 : Int32) : Option (Int32 × Int32 × Int32 × Int32 × Int32 × (Nat → Int32)) := (fX2_write ta_length ta_text p0 p1).bind (fun g1 => (fX6_counted a_refusedBad a_refusedNo a_refusedFull g1.1).bind (fun g2 => some ((g2.1, g2.2.1, g2.2.2.1, g2.2.2.2, g1.2.1, g1.2.2))))

/-! RX6 clear()I -/
def fX6_clear (ta_length : Int32) : Option (Int32 × Int32) := (fX2_wipe ta_length).bind (fun g1 => some ((g1.1, g1.2)))

/-! RX6 read()I -/
def fX6_read (va_villages : Int32) (va_woods : Int32) (va_needs : Int32) (va_signs : Int32) (va_temper : Nat → Int32) (va_friend : Nat → Int32) (va_rope : Nat → Int32) (va_hears : Nat → Int32) (va_shut : Nat → Int32) (va_woodBell : Nat → Int32) (va_woodVillage : Nat → Int32) (va_needVillage : Nat → Int32) (va_needWind : Nat → Int32) (va_needSeen : Nat → Int32) (va_sign : Nat → Int32) (da_villages : Int32) (da_woods : Int32) (da_needs : Int32) (da_signs : Int32) (da_temper : Nat → Int32) (da_friend : Nat → Int32) (da_rope : Nat → Int32) (da_hears : Nat → Int32) (da_shut : Nat → Int32) (da_woodBell : Nat → Int32) (da_woodVillage : Nat → Int32) (da_needVillage : Nat → Int32) (da_needWind : Nat → Int32) (da_needSeen : Nat → Int32) (da_sign : Nat → Int32) (ta_length : Int32) (ta_text : Nat → Int32) (ta_number : Nat → Int32) (ta_numbers : Int32) : Option (Int32 × Int32 × Int32 × Int32 × Int32 × (Nat → Int32) × (Nat → Int32) × (Nat → Int32) × (Nat → Int32) × (Nat → Int32) × (Nat → Int32) × (Nat → Int32) × (Nat → Int32) × (Nat → Int32) × (Nat → Int32) × (Nat → Int32) × Int32 × Int32 × Int32 × Int32 × (Nat → Int32) × (Nat → Int32) × (Nat → Int32) × (Nat → Int32) × (Nat → Int32) × (Nat → Int32) × (Nat → Int32) × (Nat → Int32) × (Nat → Int32) × (Nat → Int32) × (Nat → Int32) × Int32 × Int32 × Int32 × Int32) := (fX2_tell ta_length ta_text ta_number ta_numbers da_villages da_woods da_needs da_signs da_temper da_friend da_rope da_hears da_shut da_woodBell da_woodVillage da_needVillage da_needWind da_needSeen).bind (fun g1 => (if g1.1 ≤ 0 then some ((g1.1, va_villages, va_woods, va_needs, va_signs, va_temper, va_friend, va_rope, va_hears, va_shut, va_woodBell, va_woodVillage, va_needVillage, va_needWind, va_needSeen, va_sign, g1.2.2.2.2.2.2.1, g1.2.2.2.2.2.2.2.1, g1.2.2.2.2.2.2.2.2.1, g1.2.2.2.2.2.2.2.2.2.1, g1.2.2.2.2.2.2.2.2.2.2.1, g1.2.2.2.2.2.2.2.2.2.2.2.1, g1.2.2.2.2.2.2.2.2.2.2.2.2.1, g1.2.2.2.2.2.2.2.2.2.2.2.2.2.1, g1.2.2.2.2.2.2.2.2.2.2.2.2.2.2.1, g1.2.2.2.2.2.2.2.2.2.2.2.2.2.2.2.1, g1.2.2.2.2.2.2.2.2.2.2.2.2.2.2.2.2.1, g1.2.2.2.2.2.2.2.2.2.2.2.2.2.2.2.2.2.1, g1.2.2.2.2.2.2.2.2.2.2.2.2.2.2.2.2.2.2.1, g1.2.2.2.2.2.2.2.2.2.2.2.2.2.2.2.2.2.2.2, g1.2.1, g1.2.2.1, g1.2.2.2.1, g1.2.2.2.2.1, g1.2.2.2.2.2.1)) else (fX3_copy va_temper va_friend va_rope va_hears va_shut va_woodBell va_woodVillage va_needVillage va_needWind va_needSeen va_sign g1.2.2.2.2.2.2.1 g1.2.2.2.2.2.2.2.1 g1.2.2.2.2.2.2.2.2.1 g1.2.2.2.2.2.2.2.2.2.1 g1.2.2.2.2.2.2.2.2.2.2.1 g1.2.2.2.2.2.2.2.2.2.2.2.1 g1.2.2.2.2.2.2.2.2.2.2.2.2.1 g1.2.2.2.2.2.2.2.2.2.2.2.2.2.1 g1.2.2.2.2.2.2.2.2.2.2.2.2.2.2.1 g1.2.2.2.2.2.2.2.2.2.2.2.2.2.2.2.1 g1.2.2.2.2.2.2.2.2.2.2.2.2.2.2.2.2.1 g1.2.2.2.2.2.2.2.2.2.2.2.2.2.2.2.2.2.1 g1.2.2.2.2.2.2.2.2.2.2.2.2.2.2.2.2.2.2.1 g1.2.2.2.2.2.2.2.2.2.2.2.2.2.2.2.2.2.2.2 da_sign).bind (fun g3 => some ((g1.1, g3.1, g3.2.1, g3.2.2.1, g3.2.2.2.1, g3.2.2.2.2.1, g3.2.2.2.2.2.1, g3.2.2.2.2.2.2.1, g3.2.2.2.2.2.2.2.1, g3.2.2.2.2.2.2.2.2.1, g3.2.2.2.2.2.2.2.2.2.1, g3.2.2.2.2.2.2.2.2.2.2.1, g3.2.2.2.2.2.2.2.2.2.2.2.1, g3.2.2.2.2.2.2.2.2.2.2.2.2.1, g3.2.2.2.2.2.2.2.2.2.2.2.2.2.1, g3.2.2.2.2.2.2.2.2.2.2.2.2.2.2, g1.2.2.2.2.2.2.1, g1.2.2.2.2.2.2.2.1, g1.2.2.2.2.2.2.2.2.1, g1.2.2.2.2.2.2.2.2.2.1, g1.2.2.2.2.2.2.2.2.2.2.1, g1.2.2.2.2.2.2.2.2.2.2.2.1, g1.2.2.2.2.2.2.2.2.2.2.2.2.1, g1.2.2.2.2.2.2.2.2.2.2.2.2.2.1, g1.2.2.2.2.2.2.2.2.2.2.2.2.2.2.1, g1.2.2.2.2.2.2.2.2.2.2.2.2.2.2.2.1, g1.2.2.2.2.2.2.2.2.2.2.2.2.2.2.2.2.1, g1.2.2.2.2.2.2.2.2.2.2.2.2.2.2.2.2.2.1, g1.2.2.2.2.2.2.2.2.2.2.2.2.2.2.2.2.2.2.1, g1.2.2.2.2.2.2.2.2.2.2.2.2.2.2.2.2.2.2.2, g1.2.1, g1.2.2.1, g1.2.2.2.1, g1.2.2.2.2.1, g1.2.2.2.2.2.1)))))

/-! RX6 isSide(I)Z -/
def fX6_isSide (p0 : Int32) : Option (Int32) := (if p0 = 0 then some 1 else (if p0 = 1 then some 1 else some 0))

/-! RX6 rang(II)I -/
def fX6_rang (a_refusedBad : Int32) (a_refusedNo : Int32) (a_refusedFull : Int32) (va_villages : Int32) (va_needs : Int32) (va_temper : Nat → Int32) (va_friend : Nat → Int32) (va_rope : Nat → Int32) (va_hears : Nat → Int32) (va_shut : Nat → Int32) (va_needVillage : Nat → Int32) (va_needWind : Nat → Int32) (va_needSeen : Nat → Int32) (na_due : Nat → Int32) (na_rang : Nat → Int32) (na_times : Nat → Int32) (na_last : Nat → Int32) (p0 : Int32) (p1 : Int32) : Option (Int32 × Int32 × Int32 × Int32 × (Nat → Int32) × (Nat → Int32) × (Nat → Int32) × (Nat → Int32)) := (if p0 < 0 then (fX6_counted a_refusedBad a_refusedNo a_refusedFull ((-2))).bind (fun g2 => some ((g2.1, g2.2.1, g2.2.2.1, g2.2.2.2, na_due, na_rang, na_times, na_last))) else (if va_needs ≤ p0 then (fX6_counted a_refusedBad a_refusedNo a_refusedFull ((-2))).bind (fun g4 => some ((g4.1, g4.2.1, g4.2.2.1, g4.2.2.2, na_due, na_rang, na_times, na_last))) else (fX6_isSide p1).bind (fun g5 => (if g5 = 0 then (fX6_counted a_refusedBad a_refusedNo a_refusedFull ((-2))).bind (fun g11 => some ((g11.1, g11.2.1, g11.2.2.1, g11.2.2.2, na_due, na_rang, na_times, na_last))) else (fX4_go na_due na_rang na_times na_last va_villages va_needs va_temper va_friend va_rope va_hears va_shut va_needVillage va_needWind va_needSeen).bind (fun g7 => (if p1 = 0 then (rdI 12 g7.1 p0).bind (fun z10 => some ((z10, a_refusedBad, a_refusedNo, a_refusedFull, g7.1, g7.2.1, g7.2.2.1, g7.2.2.2))) else (rdI 12 g7.2.1 p0).bind (fun z9 => some ((z9, a_refusedBad, a_refusedNo, a_refusedFull, g7.1, g7.2.1, g7.2.2.1, g7.2.2.2)))))))))

/-! RX6 helped(I)I -/
def fX6_helped (a_refusedBad : Int32) (a_refusedNo : Int32) (a_refusedFull : Int32) (va_villages : Int32) (va_needs : Int32) (va_temper : Nat → Int32) (va_friend : Nat → Int32) (va_rope : Nat → Int32) (va_hears : Nat → Int32) (va_shut : Nat → Int32) (va_needVillage : Nat → Int32) (va_needWind : Nat → Int32) (va_needSeen : Nat → Int32) (na_due : Nat → Int32) (na_rang : Nat → Int32) (na_times : Nat → Int32) (na_last : Nat → Int32) (p0 : Int32) : Option (Int32 × Int32 × Int32 × Int32 × (Nat → Int32) × (Nat → Int32) × (Nat → Int32) × (Nat → Int32)) := (if p0 = ((-1)) then (fX4_go na_due na_rang na_times na_last va_villages va_needs va_temper va_friend va_rope va_hears va_shut va_needVillage va_needWind va_needSeen).bind (fun g2 => (fX4_needsHelped g2.2.1 va_needs va_needVillage p0).bind (fun g3 => some ((g3, a_refusedBad, a_refusedNo, a_refusedFull, g2.1, g2.2.1, g2.2.2.1, g2.2.2.2)))) else (fX3_isVillage va_villages p0).bind (fun g4 => (if g4 = 0 then (fX6_counted a_refusedBad a_refusedNo a_refusedFull ((-2))).bind (fun g8 => some ((g8.1, g8.2.1, g8.2.2.1, g8.2.2.2, na_due, na_rang, na_times, na_last))) else (fX4_go na_due na_rang na_times na_last va_villages va_needs va_temper va_friend va_rope va_hears va_shut va_needVillage va_needWind va_needSeen).bind (fun g6 => (fX4_needsHelped g6.2.1 va_needs va_needVillage p0).bind (fun g7 => some ((g7, a_refusedBad, a_refusedNo, a_refusedFull, g6.1, g6.2.1, g6.2.2.1, g6.2.2.2)))))))

/-! RX6 favours(II)I -/
def fX6_favours (a_refusedBad : Int32) (a_refusedNo : Int32) (a_refusedFull : Int32) (va_villages : Int32) (va_needs : Int32) (va_temper : Nat → Int32) (va_friend : Nat → Int32) (va_rope : Nat → Int32) (va_hears : Nat → Int32) (va_shut : Nat → Int32) (va_needVillage : Nat → Int32) (va_needWind : Nat → Int32) (va_needSeen : Nat → Int32) (na_due : Nat → Int32) (na_rang : Nat → Int32) (na_times : Nat → Int32) (na_last : Nat → Int32) (p0 : Int32) (p1 : Int32) : Option (Int32 × Int32 × Int32 × Int32 × (Nat → Int32) × (Nat → Int32) × (Nat → Int32) × (Nat → Int32)) := (fX3_areTwo va_villages p0 p1).bind (fun g1 => (if g1 = 0 then (fX6_counted a_refusedBad a_refusedNo a_refusedFull ((-2))).bind (fun g6 => some ((g6.1, g6.2.1, g6.2.2.1, g6.2.2.2, na_due, na_rang, na_times, na_last))) else (fX4_go na_due na_rang na_times na_last va_villages va_needs va_temper va_friend va_rope va_hears va_shut va_needVillage va_needWind va_needSeen).bind (fun g3 => (fX6_pair p0 p1).bind (fun g4 => (rdI 36 g3.2.2.1 g4).bind (fun z5 => some ((z5, a_refusedBad, a_refusedNo, a_refusedFull, g3.1, g3.2.1, g3.2.2.1, g3.2.2.2)))))))

/-! RX6 last(II)I -/
def fX6_last (a_refusedBad : Int32) (a_refusedNo : Int32) (a_refusedFull : Int32) (va_villages : Int32) (va_needs : Int32) (va_temper : Nat → Int32) (va_friend : Nat → Int32) (va_rope : Nat → Int32) (va_hears : Nat → Int32) (va_shut : Nat → Int32) (va_needVillage : Nat → Int32) (va_needWind : Nat → Int32) (va_needSeen : Nat → Int32) (na_due : Nat → Int32) (na_rang : Nat → Int32) (na_times : Nat → Int32) (na_last : Nat → Int32) (p0 : Int32) (p1 : Int32) : Option (Int32 × Int32 × Int32 × Int32 × (Nat → Int32) × (Nat → Int32) × (Nat → Int32) × (Nat → Int32)) := (fX3_areTwo va_villages p0 p1).bind (fun g1 => (if g1 = 0 then (fX6_counted a_refusedBad a_refusedNo a_refusedFull ((-2))).bind (fun g6 => some ((g6.1, g6.2.1, g6.2.2.1, g6.2.2.2, na_due, na_rang, na_times, na_last))) else (fX4_go na_due na_rang na_times na_last va_villages va_needs va_temper va_friend va_rope va_hears va_shut va_needVillage va_needWind va_needSeen).bind (fun g3 => (fX6_pair p0 p1).bind (fun g4 => (rdI 36 g3.2.2.2 g4).bind (fun z5 => some ((z5, a_refusedBad, a_refusedNo, a_refusedFull, g3.1, g3.2.1, g3.2.2.1, g3.2.2.2)))))))

/-! RX6 badApart()I -/
def fX6_badApart (a_refusedBad : Int32) : Option (Int32 × Int32) := some (((-10), a_refusedBad + 1))

/-! RX6 ropes(I)I -/
def fX6_ropes (a_refusedBad : Int32) (va_villages : Int32) (va_needs : Int32) (va_hears : Nat → Int32) (va_shut : Nat → Int32) (va_needVillage : Nat → Int32) (va_needWind : Nat → Int32) (va_needSeen : Nat → Int32) (oa_best : Nat → Int32) (oa_most : Int32) (oa_given : Nat → Int32) (oa_meets : Nat → Int32) (oa_villages : Int32) (p0 : Int32) : Option (Int32 × Int32 × (Nat → Int32) × Int32 × (Nat → Int32) × (Nat → Int32) × Int32) := (if p0 = ((-1)) then (fX1_go oa_best oa_given oa_meets va_villages va_needs va_hears va_shut va_needVillage va_needWind va_needSeen).bind (fun g2 => (if p0 = ((-1)) then some ((g2.2.1, a_refusedBad, g2.1, g2.2.1, g2.2.2.1, g2.2.2.2.1, g2.2.2.2.2)) else (if g2.2.1 = ((-1)) then some ((g2.2.1, a_refusedBad, g2.1, g2.2.1, g2.2.2.1, g2.2.2.2.1, g2.2.2.2.2)) else (rdI 6 g2.1 p0).bind (fun z5 => some ((z5, a_refusedBad, g2.1, g2.2.1, g2.2.2.1, g2.2.2.2.1, g2.2.2.2.2)))))) else (fX3_isVillage va_villages p0).bind (fun g6 => (if g6 = 0 then (fX6_badApart a_refusedBad).bind (fun g12 => some ((g12.1, g12.2, oa_best, oa_most, oa_given, oa_meets, oa_villages))) else (fX1_go oa_best oa_given oa_meets va_villages va_needs va_hears va_shut va_needVillage va_needWind va_needSeen).bind (fun g8 => (if p0 = ((-1)) then some ((g8.2.1, a_refusedBad, g8.1, g8.2.1, g8.2.2.1, g8.2.2.2.1, g8.2.2.2.2)) else (if g8.2.1 = ((-1)) then some ((g8.2.1, a_refusedBad, g8.1, g8.2.1, g8.2.2.1, g8.2.2.2.1, g8.2.2.2.2)) else (rdI 6 g8.1 p0).bind (fun z11 => some ((z11, a_refusedBad, g8.1, g8.2.1, g8.2.2.1, g8.2.2.2.1, g8.2.2.2.2)))))))))

/-! RX6 rope(I)I -/
def fX6_rope (a_refusedBad : Int32) (a_refusedNo : Int32) (a_refusedFull : Int32) (va_villages : Int32) (va_rope : Nat → Int32) (p0 : Int32) : Option (Int32 × Int32 × Int32 × Int32) := (fX3_isVillage va_villages p0).bind (fun g1 => (if g1 = 0 then some ((-2)) else (rdI 6 va_rope p0).bind (fun z4 => some z4) : Option (Int32)).bind (fun f3 => (fX6_counted a_refusedBad a_refusedNo a_refusedFull f3).bind (fun g5 => some ((g5.1, g5.2.1, g5.2.2.1, g5.2.2.2)))))

/-! RX6 ring(I)I -/
def fX6_ring (a_refusedBad : Int32) (va_villages : Int32) (va_rope : Nat → Int32) (va_hears : Nat → Int32) (va_shut : Nat → Int32) (ga_path : Nat → Int32) (ga_favoured : Nat → Int32) (ga_villages : Int32) (p0 : Int32) : Option (Int32 × Int32 × (Nat → Int32) × (Nat → Int32) × Int32) := (if ((-1)) ≤ p0 then (fX0_go ga_path ga_favoured va_villages va_rope va_hears va_shut).bind (fun g2 => (if p0 = ((-1)) then some ((g2.1, a_refusedBad, g2.2.1, g2.2.2.1, g2.2.2.2)) else (if g2.1 ≤ p0 then some (((-5), a_refusedBad, g2.2.1, g2.2.2.1, g2.2.2.2)) else (rdI 6 g2.2.1 p0).bind (fun z5 => some ((z5, a_refusedBad, g2.2.1, g2.2.2.1, g2.2.2.2)))))) else (fX6_badApart a_refusedBad).bind (fun g6 => some ((g6.1, g6.2, ga_path, ga_favoured, ga_villages))))

/-! RX6 word(III)I -/
def fX6_word_52 (p1 : Int32) (va_villages : Int32) (va_rope : Nat → Int32) (va_hears : Nat → Int32) (va_shut : Nat → Int32) (kx : Int32 → Int32 → Int32 → Option (Int32 × Int32 × Int32 × Int32)) : Nat → Int32 → Int32 → Int32 → Option (Int32 × Int32 × Int32 × Int32)
  | 0, _, _, _ => none
  | n + 1, x4_52, x5_52, x6_52 => (if x6_52 = x5_52 then (kx x4_52 x5_52 x6_52) else (if 6 ≤ x4_52 then (kx x4_52 x5_52 x6_52) else (fX3_knowAfterRound va_villages va_rope va_hears va_shut x6_52 p1).bind (fun g12 => (fX6_word_52 p1 va_villages va_rope va_hears va_shut kx n (x4_52 + 1) x6_52 g12))))
def fX6_word (a_refusedBad : Int32) (a_refusedNo : Int32) (a_refusedFull : Int32) (va_villages : Int32) (va_rope : Nat → Int32) (va_hears : Nat → Int32) (va_shut : Nat → Int32) (p0 : Int32) (p1 : Int32) (p2 : Int32) : Option (Int32 × Int32 × Int32 × Int32) := (fX3_isVillage va_villages p0).bind (fun g1 => (if g1 = 0 then (fX6_counted a_refusedBad a_refusedNo a_refusedFull ((-2))).bind (fun g3 => some ((g3.1, g3.2.1, g3.2.2.1, g3.2.2.2))) else (fX6_isWind p1).bind (fun g4 => (if g4 = 0 then (fX6_counted a_refusedBad a_refusedNo a_refusedFull ((-2))).bind (fun g6 => some ((g6.1, g6.2.1, g6.2.2.1, g6.2.2.2))) else (fX6_isSide p2).bind (fun g7 => (if g7 = 0 then (fX6_counted a_refusedBad a_refusedNo a_refusedFull ((-2))).bind (fun g17 => some ((g17.1, g17.2.1, g17.2.2.1, g17.2.2.2))) else (fX3_knowAfterRound va_villages va_rope va_hears va_shut (1 <<< (p0 &&& 31)) p1).bind (fun g9 => (fX6_word_52 p1 va_villages va_rope va_hears va_shut (fun x4_52_13 x5_52_14 x6_52_15 => (if p2 = 0 then some ((x4_52_13, a_refusedBad, a_refusedNo, a_refusedFull)) else some ((x5_52_14, a_refusedBad, a_refusedNo, a_refusedFull)))) fu 0 (1 <<< (p0 &&& 31)) g9 ))))))))

/-! RX6 fell()I -/
def fX6_fell (va_villages : Int32) (va_woods : Int32) (va_needs : Int32) (va_rope : Nat → Int32) (va_hears : Nat → Int32) (va_woodBell : Nat → Int32) (va_woodVillage : Nat → Int32) (va_needVillage : Nat → Int32) (va_needWind : Nat → Int32) (va_needSeen : Nat → Int32) (wa_between : Nat → Int32) : Option (Int32 × (Nat → Int32)) := (fX5_go wa_between va_villages va_woods va_needs va_rope va_hears va_woodBell va_woodVillage va_needVillage va_needWind va_needSeen).bind (fun g1 => some ((g1.1, g1.2)))

/-! RX6 sign(I)I -/
def fX6_sign (a_refusedBad : Int32) (a_refusedNo : Int32) (a_refusedFull : Int32) (va_signs : Int32) (va_sign : Nat → Int32) (p0 : Int32) : Option (Int32 × Int32 × Int32 × Int32 × Int32 × (Nat → Int32)) := (fX3_addSign va_signs va_sign p0).bind (fun g1 => (fX6_counted a_refusedBad a_refusedNo a_refusedFull g1.1).bind (fun g2 => some ((g2.1, g2.2.1, g2.2.2.1, g2.2.2.2, g1.2.1, g1.2.2))))

/-! RX6 clearSigns()I -/
def fX6_clearSigns_15 (va_signs : Int32) (va_sign : Nat → Int32) (x1_2 : Int32) (kx : Int32 → Option (Int32)) : Nat → Int32 → Option (Int32)
  | 0, _ => none
  | n + 1, x2_15 => (if va_signs ≤ x2_15 then (kx x2_15) else (fX3_firstTakenFor va_signs va_sign x1_2 x2_15).bind (fun g3 => (if g3 = ((-1)) then (fX6_clearSigns_15 va_signs va_sign x1_2 kx n (x2_15 + 1)) else some (((1000 * x1_2) + (100 * x2_15)) + g3))))
def fX6_clearSigns_2 (va_signs : Int32) (va_sign : Nat → Int32) (kx : Int32 → Option (Int32)) : Nat → Int32 → Option (Int32)
  | 0, _ => none
  | n + 1, x1_2 => (if va_signs ≤ x1_2 then (kx x1_2) else (fX6_clearSigns_15 va_signs va_sign x1_2 (fun x2_15_5 => (fX6_clearSigns_2 va_signs va_sign kx n (x1_2 + 1))) fu 0 ))
def fX6_clearSigns (va_signs : Int32) (va_sign : Nat → Int32) : Option (Int32) := (fX6_clearSigns_2 va_signs va_sign (fun x1_2_6 => some ((-1))) fu 0 )

/-! RX6 came(III)I -/
def fX6_came (a_refusedBad : Int32) (a_refusedNo : Int32) (a_refusedFull : Int32) (va_villages : Int32) (va_hears : Nat → Int32) (va_shut : Nat → Int32) (p0 : Int32) (p1 : Int32) (p2 : Int32) : Option (Int32 × Int32 × Int32 × Int32) := (fX3_canCome va_villages p0 p1 p2).bind (fun g1 => (if g1 = 0 then some ((-2)) else (fX3_bellsFrom va_villages va_hears va_shut p0 p1 p2).bind (fun g4 => some g4) : Option (Int32)).bind (fun f3 => (fX6_counted a_refusedBad a_refusedNo a_refusedFull f3).bind (fun g5 => some ((g5.1, g5.2.1, g5.2.2.1, g5.2.2.2)))))

/-! RX6 ask(III)I -/
def fX6_ask (a_refusedBad : Int32) (a_refusedNo : Int32) (a_refusedFull : Int32) (va_villages : Int32) (va_hears : Nat → Int32) (va_shut : Nat → Int32) (p0 : Int32) (p1 : Int32) (p2 : Int32) : Option (Int32 × Int32 × Int32 × Int32) := (fX3_canCome va_villages p0 p1 p2).bind (fun g1 => (if g1 = 0 then (fX6_counted a_refusedBad a_refusedNo a_refusedFull ((-2))).bind (fun g5 => some ((g5.1, g5.2.1, g5.2.2.1, g5.2.2.2))) else (fX3_bellsFrom va_villages va_hears va_shut p0 p1 p2).bind (fun g3 => (fX3_partsMostEvenly va_villages va_hears va_shut p0 g3 (p1 ||| p2)).bind (fun g4 => some ((g4, a_refusedBad, a_refusedNo, a_refusedFull))))))

/-! RX6 status(I)I -/
def fX6_status (a_refusedBad : Int32) (a_refusedNo : Int32) (a_refusedFull : Int32) (p0 : Int32) : Option (Int32 × Int32) := (if p0 = 0 then some ((a_refusedBad, a_refusedBad)) else (if p0 = 1 then some ((a_refusedNo, a_refusedBad)) else (if p0 = 2 then some ((a_refusedFull, a_refusedBad)) else some (((-1), a_refusedBad + 1)))))

/-! RX6 howMany(I)I -/
def fX6_howMany (va_villages : Int32) (va_woods : Int32) (va_needs : Int32) (va_signs : Int32) (ta_length : Int32) (p0 : Int32) : Option (Int32) := (if p0 = 0 then some va_villages else (if p0 = 1 then some va_woods else (if p0 = 2 then some va_needs else (if p0 = 3 then some va_signs else (if p0 = 4 then some ta_length else some ((-2)))))))

/-! RX6 count(I)I -/
def fX6_count (a_refusedBad : Int32) (a_refusedNo : Int32) (a_refusedFull : Int32) (va_villages : Int32) (va_woods : Int32) (va_needs : Int32) (va_signs : Int32) (ta_length : Int32) (p0 : Int32) : Option (Int32 × Int32 × Int32 × Int32) := (fX6_howMany va_villages va_woods va_needs va_signs ta_length p0).bind (fun g1 => (fX6_counted a_refusedBad a_refusedNo a_refusedFull g1).bind (fun g2 => some ((g2.1, g2.2.1, g2.2.2.1, g2.2.2.2))))

/-! RX6 digest()J -/
def fX6_digest_6 (va_villages : Int32) (va_woods : Int32) (va_needs : Int32) (va_signs : Int32) (ta_length : Int32) (kx : Int64 → Int32 → Option (Int64)) : Nat → Int64 → Int32 → Option (Int64)
  | 0, _, _ => none
  | n + 1, x1_6, x3_6 => (if 4 < x3_6 then (kx x1_6 x3_6) else (fX6_howMany va_villages va_woods va_needs va_signs ta_length x3_6).bind (fun g2 => (fX6_digest_6 va_villages va_woods va_needs va_signs ta_length kx n ((31 * x1_6) + g2.toInt64) (x3_6 + 1))))
def fX6_digest (va_villages : Int32) (va_woods : Int32) (va_needs : Int32) (va_signs : Int32) (va_temper : Nat → Int32) (va_friend : Nat → Int32) (va_rope : Nat → Int32) (va_hears : Nat → Int32) (va_woodBell : Nat → Int32) (va_woodVillage : Nat → Int32) (va_needVillage : Nat → Int32) (va_needWind : Nat → Int32) (va_needSeen : Nat → Int32) (va_sign : Nat → Int32) (ta_length : Int32) : Option (Int64) := (fX6_digest_6 va_villages va_woods va_needs va_signs ta_length (fun x1_6_3 x3_6_4 => (fX3_digestFrom va_villages va_woods va_needs va_signs va_temper va_friend va_rope va_hears va_woodBell va_woodVillage va_needVillage va_needWind va_needSeen va_sign x1_6_3).bind (fun g5 => some g5)) fu 727 0 )

/-! RX7 in(III)Z -/
def fX7_in (p0 : Int32) (p1 : Int32) (p2 : Int32) : Option (Int32) := (if p0 < p1 then some 0 else (if p2 < p0 then some 0 else some 1))

/-! RX7 refuses(II)I -/
def fX7_refuses (a_refused : Nat → Int32) (p0 : Int32) (p1 : Int32) : Option (Int32 × (Nat → Int32)) := (rdI 3 a_refused p0).bind (fun z1 => (wrI 3 a_refused p0 (z1 + 1)).bind (fun u2 => some ((p1, u2))))

/-! RX7 bad()I -/
def fX7_bad (a_refused : Nat → Int32) : Option (Int32 × (Nat → Int32)) := (fX7_refuses a_refused 0 ((-2))).bind (fun g1 => some ((g1.1, g1.2)))

/-! RX7 isOne(I)Z -/
def fX7_isOne (a_book : Nat → Int32) (p0 : Int32) : Option (Int32) := (rdI 104 a_book 0).bind (fun z1 => (fX7_in p0 0 (z1 - 1)).bind (fun g2 => (zbI g2).bind (fun z3 => some z3)))

/-! RX7 isSet(I)Z -/
def fX7_isSet (a_book : Nat → Int32) (p0 : Int32) : Option (Int32) := (rdI 104 a_book 0).bind (fun z1 => (fX7_in p0 0 ((1 <<< (z1 &&& 31)) - 1)).bind (fun g2 => (zbI g2).bind (fun z3 => some z3)))

/-! RX7 begins(I)V -/
def fX7_begins_2  (kx : Int32 → (Nat → Int32) → Option ((Nat → Int32))) : Nat → Int32 → (Nat → Int32) → Option ((Nat → Int32))
  | 0, _, _ => none
  | n + 1, x2_2, a_book_2 => (if 104 ≤ x2_2 then (kx x2_2 a_book_2) else (wrI 104 a_book_2 x2_2 0).bind (fun u2 => (fX7_begins_2  kx n (x2_2 + 1) u2)))
def fX7_begins_30 (p0 : Int32) (kx : Int32 → (Nat → Int32) → Option ((Nat → Int32))) : Nat → Int32 → (Nat → Int32) → Option ((Nat → Int32))
  | 0, _, _ => none
  | n + 1, x2_30, a_book_30 => (if p0 ≤ x2_30 then (kx x2_30 a_book_30) else (wrI 104 a_book_30 (10 + x2_30) x2_30).bind (fun u7 => (wrI 104 u7 (16 + x2_30) x2_30).bind (fun u8 => (fX7_begins_30 p0 kx n (x2_30 + 1) u8))))
def fX7_begins (a_book : Nat → Int32) (p0 : Int32) : Option ((Nat → Int32)) := (fX7_begins_2 (fun x2_2_3 a_book_2_4 => (wrI 104 a_book_2_4 0 p0).bind (fun u5 => (fX7_begins_30 p0 (fun x2_30_9 a_book_30_10 => some a_book_30_10) fu 0 u5))) fu 0 a_book)

/-! RX7 tellsHears(IIIZ)I -/
def fX7_tellsHears (a_book : Nat → Int32) (p0 : Int32) (p1 : Int32) (p2 : Int32) (p3 : Int32) : Option (Int32 × (Nat → Int32)) := (fX7_isOne a_book p0).bind (fun g1 => (if g1 = 0 then some (((-2), a_book)) else (fX7_in p1 0 3).bind (fun g3 => (if g3 = 0 then some (((-2), a_book)) else (fX7_isOne a_book p2).bind (fun g5 => (if g5 = 0 then some (((-2), a_book)) else (if p0 = p2 then some (((-2), a_book)) else (rdI 104 a_book ((22 + (4 * p0)) + p1)).bind (fun z8 => (if ((z8 >>> (p2 &&& 31)) &&& 1) = 1 then some 1 else some 0 : Option (Int32)).bind (fun f10 => (if f10 = p3 then some (((-3), a_book)) else (rdI 104 a_book ((22 + (4 * p0)) + p1)).bind (fun z12 => (wrI 104 a_book ((22 + (4 * p0)) + p1) (z12 ^^^ (1 <<< (p2 &&& 31)))).bind (fun u13 => some ((1, u13))))))))))))))

/-! RX7 tellsWood(II)I -/
def fX7_tellsWood (a_book : Nat → Int32) (p0 : Int32) (p1 : Int32) : Option (Int32 × (Nat → Int32)) := (fX7_isOne a_book p0).bind (fun g1 => (if g1 = 0 then some (((-2), a_book)) else (fX7_isOne a_book p1).bind (fun g3 => (if g3 = 0 then some (((-2), a_book)) else (if p0 = p1 then some (((-2), a_book)) else (rdI 104 a_book 1).bind (fun z6 => (if z6 = 8 then some (((-4), a_book)) else (rdI 104 a_book 1).bind (fun z8 => (wrI 104 a_book (46 + z8) p0).bind (fun u9 => (rdI 104 u9 1).bind (fun z10 => (wrI 104 u9 (54 + z10) p1).bind (fun u11 => (rdI 104 u11 1).bind (fun z12 => (wrI 104 u11 1 (z12 + 1)).bind (fun u13 => (rdI 104 u13 1).bind (fun z14 => some ((z14 - 1, u13))))))))))))))))

/-! RX7 becomes(II)I -/
def fX7_becomes (a_book : Nat → Int32) (p0 : Int32) (p1 : Int32) : Option (Int32 × (Nat → Int32)) := (rdI 104 a_book p0).bind (fun z1 => (wrI 104 a_book p0 p1).bind (fun u2 => some ((z1, u2))))

/-! RX7 tellsTemper(II)I -/
def fX7_tellsTemper (a_book : Nat → Int32) (p0 : Int32) (p1 : Int32) : Option (Int32 × (Nat → Int32)) := (fX7_isOne a_book p0).bind (fun g1 => (if g1 = 0 then some (((-2), a_book)) else (fX7_in p1 0 5).bind (fun g3 => (if g3 = 0 then some (((-2), a_book)) else (fX7_becomes a_book (4 + p0) p1).bind (fun g5 => some ((g5.1, g5.2)))))))

/-! RX7 tellsFriend(II)I -/
def fX7_tellsFriend (a_book : Nat → Int32) (p0 : Int32) (p1 : Int32) : Option (Int32 × (Nat → Int32)) := (fX7_isOne a_book p0).bind (fun g1 => (if g1 = 0 then some (((-2), a_book)) else (fX7_isOne a_book p1).bind (fun g3 => (if g3 = 0 then some (((-2), a_book)) else (fX7_becomes a_book (10 + p0) p1).bind (fun g5 => some ((g5.1, g5.2)))))))

/-! RX7 tellsNeed(III)I -/
def fX7_tellsNeed (a_book : Nat → Int32) (p0 : Int32) (p1 : Int32) (p2 : Int32) : Option (Int32 × (Nat → Int32)) := (fX7_isOne a_book p0).bind (fun g1 => (if g1 = 0 then some (((-2), a_book)) else (fX7_in p1 0 3).bind (fun g3 => (if g3 = 0 then some (((-2), a_book)) else (fX7_isSet a_book p2).bind (fun g5 => (if g5 = 0 then some (((-2), a_book)) else (if ((p2 >>> (p0 &&& 31)) &&& 1) = 1 then some (((-2), a_book)) else (rdI 104 a_book 2).bind (fun z8 => (if z8 = 12 then some (((-4), a_book)) else (rdI 104 a_book 2).bind (fun z10 => (wrI 104 a_book (62 + z10) p0).bind (fun u11 => (wrI 104 u11 (74 + z10) p1).bind (fun u12 => (wrI 104 u12 (86 + z10) p2).bind (fun u13 => (rdI 104 u13 2).bind (fun z14 => (wrI 104 u13 2 (z14 + 1)).bind (fun u15 => some ((z10, u15)))))))))))))))))

/-! RX7 told(I)I -/
def fX7_told (a_refused : Nat → Int32) (p0 : Int32) : Option (Int32 × (Nat → Int32)) := (if ((-1)) ≤ p0 then some ((p0, a_refused)) else (rdI 3 a_refused (((-2)) - p0)).bind (fun z2 => (wrI 3 a_refused (((-2)) - p0) (z2 + 1)).bind (fun u3 => some ((p0, u3)))))

/-! RX7 villages(I)I -/
def fX7_villages (a_book : Nat → Int32) (a_refused : Nat → Int32) (p0 : Int32) : Option (Int32 × (Nat → Int32) × (Nat → Int32)) := (fX7_in p0 2 6).bind (fun g1 => (if g1 = 0 then (fX7_bad a_refused).bind (fun g5 => some ((g5.1, a_book, g5.2))) else (rdI 104 a_book 0).bind (fun z3 => (fX7_begins a_book p0).bind (fun g4 => some ((z3, g4, a_refused))))))

/-! RX7 hears(IIIZ)I -/
def fX7_hears (a_book : Nat → Int32) (a_refused : Nat → Int32) (p0 : Int32) (p1 : Int32) (p2 : Int32) (p3 : Int32) : Option (Int32 × (Nat → Int32) × (Nat → Int32)) := (fX7_tellsHears a_book p0 p1 p2 p3).bind (fun g1 => (fX7_told a_refused g1.1).bind (fun g2 => some ((g2.1, g1.2, g2.2))))

/-! RX7 wood(II)I -/
def fX7_wood (a_book : Nat → Int32) (a_refused : Nat → Int32) (p0 : Int32) (p1 : Int32) : Option (Int32 × (Nat → Int32) × (Nat → Int32)) := (fX7_tellsWood a_book p0 p1).bind (fun g1 => (fX7_told a_refused g1.1).bind (fun g2 => some ((g2.1, g1.2, g2.2))))

/-! RX7 temper(II)I -/
def fX7_temper (a_book : Nat → Int32) (a_refused : Nat → Int32) (p0 : Int32) (p1 : Int32) : Option (Int32 × (Nat → Int32) × (Nat → Int32)) := (fX7_tellsTemper a_book p0 p1).bind (fun g1 => (fX7_told a_refused g1.1).bind (fun g2 => some ((g2.1, g1.2, g2.2))))

/-! RX7 friendOf(II)I -/
def fX7_friendOf (a_book : Nat → Int32) (a_refused : Nat → Int32) (p0 : Int32) (p1 : Int32) : Option (Int32 × (Nat → Int32) × (Nat → Int32)) := (fX7_tellsFriend a_book p0 p1).bind (fun g1 => (fX7_told a_refused g1.1).bind (fun g2 => some ((g2.1, g1.2, g2.2))))

/-! RX7 change(II)I -/
def fX7_change (a_book : Nat → Int32) (a_refused : Nat → Int32) (p0 : Int32) (p1 : Int32) : Option (Int32 × (Nat → Int32) × (Nat → Int32)) := (fX7_isOne a_book p0).bind (fun g1 => (if g1 = 0 then (fX7_bad a_refused).bind (fun g3 => some ((g3.1, a_book, g3.2))) else (fX7_isOne a_book p1).bind (fun g4 => (if g4 = 0 then (fX7_bad a_refused).bind (fun g6 => some ((g6.1, a_book, g6.2))) else (if p0 = p1 then (fX7_bad a_refused).bind (fun g11 => some ((g11.1, a_book, g11.2))) else (rdI 104 a_book (16 + p1)).bind (fun z8 => (fX7_becomes a_book (16 + p0) z8).bind (fun g9 => (wrI 104 g9.2 (16 + p1) g9.1).bind (fun u10 => some ((1, u10, a_refused))))))))))

/-! RX7 need(III)I -/
def fX7_need (a_book : Nat → Int32) (a_refused : Nat → Int32) (p0 : Int32) (p1 : Int32) (p2 : Int32) : Option (Int32 × (Nat → Int32) × (Nat → Int32)) := (fX7_tellsNeed a_book p0 p1 p2).bind (fun g1 => (fX7_told a_refused g1.1).bind (fun g2 => some ((g2.1, g1.2, g2.2))))

/-! RX7 undo()I -/
def fX7_undo (a_book : Nat → Int32) (a_refused : Nat → Int32) : Option (Int32 × (Nat → Int32) × (Nat → Int32)) := (rdI 104 a_book 2).bind (fun z1 => (if z1 = 0 then (fX7_refuses a_refused 1 ((-3))).bind (fun g6 => some ((g6.1, a_book, g6.2))) else (rdI 104 a_book 2).bind (fun z3 => (wrI 104 a_book 2 (z3 - 1)).bind (fun u4 => (rdI 104 u4 2).bind (fun z5 => some ((z5, u4, a_refused)))))))

/-! RX7 sounds(III)I -/
def fX7_sounds_18 (p0 : Int32) (p2 : Int32) (a_book : Nat → Int32) (kx : Int32 → Int32 → Option (Int32)) : Nat → Int32 → Int32 → Option (Int32)
  | 0, _, _ => none
  | n + 1, x4_18, x5_18 => (rdI 104 a_book 1).bind (fun z2 => (if z2 ≤ x5_18 then (kx x4_18 x5_18) else (if ((p2 >>> (x5_18 &&& 31)) &&& 1) = 1 then (rdI 104 a_book (46 + x5_18)).bind (fun z5 => (if z5 = p0 then (rdI 104 a_book (54 + x5_18)).bind (fun z7 => (fX7_sounds_18 p0 p2 a_book kx n (x4_18 &&& ((1 <<< (z7 &&& 31)) ^^^ ((-1)))) (x5_18 + 1))) else (fX7_sounds_18 p0 p2 a_book kx n (x4_18 &&& ((-1))) (x5_18 + 1)))) else (fX7_sounds_18 p0 p2 a_book kx n (x4_18 &&& ((-1))) (x5_18 + 1)))))
def fX7_sounds (a_book : Nat → Int32) (p0 : Int32) (p1 : Int32) (p2 : Int32) : Option (Int32) := (rdI 104 a_book ((22 + (4 * p0)) + p1)).bind (fun z1 => (fX7_sounds_18 p0 p2 a_book (fun x4_18_8 x5_18_9 => some x4_18_8) fu z1 0 ))

/-! RX7 hall(II)I -/
def fX7_hall (a_book : Nat → Int32) (p0 : Int32) (p1 : Int32) : Option (Int32) := (fX7_sounds a_book p0 p1 255).bind (fun g1 => some g1)

/-! RX7 heard(II)I -/
def fX7_heard (a_book : Nat → Int32) (a_refused : Nat → Int32) (p0 : Int32) (p1 : Int32) : Option (Int32 × (Nat → Int32)) := (fX7_isOne a_book p0).bind (fun g1 => (if g1 = 0 then (fX7_bad a_refused).bind (fun g3 => some ((g3.1, g3.2))) else (fX7_in p1 0 3).bind (fun g4 => (if g4 = 0 then (fX7_bad a_refused).bind (fun g6 => some ((g6.1, g6.2))) else (fX7_hall a_book p0 p1).bind (fun g7 => some ((g7, a_refused)))))))

/-! RX7 type(JI)I -/
def fX7_type_40 (p0 : Int64) (kx : Int32 → (Nat → Int32) → Int32 → Option (Int32 × (Nat → Int32) × Int32 × (Nat → Int32))) : Nat → Int32 → (Nat → Int32) → Int32 → Option (Int32 × (Nat → Int32) × Int32 × (Nat → Int32))
  | 0, _, _, _ => none
  | n + 1, x4_40, a_text_40, a_length_40 => (if x4_40 < 0 then (kx x4_40 a_text_40 a_length_40) else (wrI 250 a_text_40 a_length_40 (((p0 >>> ((8 * x4_40).toInt64 &&& 63)) &&& 255).toInt32)).bind (fun u5 => (fX7_type_40 p0 kx n (x4_40 + (-1)) u5 (a_length_40 + 1))))
def fX7_type (a_text : Nat → Int32) (a_length : Int32) (a_refused : Nat → Int32) (p0 : Int64) (p1 : Int32) : Option (Int32 × (Nat → Int32) × Int32 × (Nat → Int32)) := (fX7_in p1 1 8).bind (fun g1 => (if g1 = 0 then (fX7_bad a_refused).bind (fun g10 => some ((g10.1, a_text, a_length, g10.2))) else (if (a_length + p1) ≤ 250 then (fX7_type_40 p0 (fun x4_40_6 a_text_40_7 a_length_40_8 => some ((a_length_40_8, a_text_40_7, a_length_40_8, a_refused))) fu (p1 - 1) a_text a_length) else (fX7_refuses a_refused 2 ((-4))).bind (fun g9 => some ((g9.1, a_text, a_length, g9.2))))))

/-! RX7 clear()I -/
def fX7_clear (a_length : Int32) : Option (Int32 × Int32) := some ((a_length, 0))

/-! RX7 byteAt(I)I -/
def fX7_byteAt (a_text : Nat → Int32) (a_length : Int32) (p0 : Int32) : Option (Int32) := (if a_length ≤ p0 then some ((-1)) else (rdI 250 a_text p0).bind (fun z2 => some z2))

/-! RX7 sortOf(I)I -/
def fX7_sortOf (p0 : Int32) : Option (Int32) := (if 0 ≤ p0 then (fX7_in p0 97 122).bind (fun g2 => (if g2 = 0 then (fX7_in p0 48 57).bind (fun g4 => (if g4 = 0 then (if p0 = 59 then some 3 else some 4) else some 2)) else some 1)) else some 0)

/-! RX7 token()V -/
def fX7_token_0 (a_text : Nat → Int32) (a_length : Int32) (kx : Int32 → Option (Int32 × Int32 × Int32 × Int32)) : Nat → Int32 → Option (Int32 × Int32 × Int32 × Int32)
  | 0, _ => none
  | n + 1, a_at_0 => (fX7_byteAt a_text a_length a_at_0).bind (fun g1 => (if g1 = 32 then (fX7_token_0 a_text a_length kx n (a_at_0 + 1)) else (kx a_at_0)))
def fX7_token_54 (a_text : Nat → Int32) (a_length : Int32) (g5 : Int32) (kx : Int32 → Int32 → Option (Int32 × Int32 × Int32 × Int32)) : Nat → Int32 → Int32 → Option (Int32 × Int32 × Int32 × Int32)
  | 0, _, _ => none
  | n + 1, a_at_54, a_size_54 => (if a_size_54 = 0 then (if g5 = 0 then (if g5 = 1 then (fX7_byteAt a_text a_length a_at_54).bind (fun g17 => (fX7_sortOf g17).bind (fun g18 => (if g18 = g5 then (fX7_token_54 a_text a_length g5 kx n (a_at_54 + 1) (a_size_54 + 1)) else (kx a_at_54 a_size_54)))) else (if g5 = 2 then (fX7_byteAt a_text a_length a_at_54).bind (fun g21 => (fX7_sortOf g21).bind (fun g22 => (if g22 = g5 then (fX7_token_54 a_text a_length g5 kx n (a_at_54 + 1) (a_size_54 + 1)) else (kx a_at_54 a_size_54)))) else (kx a_at_54 a_size_54))) else (fX7_token_54 a_text a_length g5 kx n (a_at_54 + 1) (a_size_54 + 1))) else (if g5 = 1 then (fX7_byteAt a_text a_length a_at_54).bind (fun g8 => (fX7_sortOf g8).bind (fun g9 => (if g9 = g5 then (fX7_token_54 a_text a_length g5 kx n (a_at_54 + 1) (a_size_54 + 1)) else (kx a_at_54 a_size_54)))) else (if g5 = 2 then (fX7_byteAt a_text a_length a_at_54).bind (fun g12 => (fX7_sortOf g12).bind (fun g13 => (if g13 = g5 then (fX7_token_54 a_text a_length g5 kx n (a_at_54 + 1) (a_size_54 + 1)) else (kx a_at_54 a_size_54)))) else (kx a_at_54 a_size_54))))
def fX7_token (a_text : Nat → Int32) (a_length : Int32) (a_at : Int32) : Option (Int32 × Int32 × Int32 × Int32) := (fX7_token_0 a_text a_length (fun a_at_0_3 => (fX7_byteAt a_text a_length a_at_0_3).bind (fun g4 => (fX7_sortOf g4).bind (fun g5 => (fX7_token_54 a_text a_length g5 (fun a_at_54_24 a_size_54_25 => some ((a_at_54_24, g5, a_at_0_3, a_size_54_25))) fu a_at_0_3 0)))) fu a_at)

/-! RX7 verb()I -/
def fX7_verb_4 (a_text : Nat → Int32) (a_length : Int32) (a_sort : Int32) (a_start : Int32) (a_size : Int32) (kx : Int64 → Int32 → Option (Int32)) : Nat → Int64 → Int32 → Option (Int32)
  | 0, _, _ => none
  | n + 1, x1_4, x3_4 => (if a_size ≤ x3_4 then (kx x1_4 x3_4) else (if 9 ≤ a_size then (kx x1_4 x3_4) else (if a_sort = 1 then (fX7_byteAt a_text a_length (a_start + x3_4)).bind (fun g4 => (fX7_verb_4 a_text a_length a_sort a_start a_size kx n ((256 * x1_4) + g4.toInt64) (x3_4 + 1))) else (kx x1_4 x3_4))))
def fX7_verb (a_text : Nat → Int32) (a_length : Int32) (a_sort : Int32) (a_start : Int32) (a_size : Int32) : Option (Int32) := (fX7_verb_4 a_text a_length a_sort a_start a_size (fun x1_4_5 x3_4_6 => (if (lg_cmp x1_4_5 8532470181776549235) = 0 then some 0 else (if (lg_cmp x1_4_5 448377483891) = 0 then some 1 else (if (lg_cmp x1_4_5 2003791716) = 0 then some 2 else some ((-1)))) : Option (Int32)).bind (fun f8 => (if f8 = ((-1)) then (if (lg_cmp x1_4_5 127978976601458) = 0 then some 3 else (if (lg_cmp x1_4_5 112641580559972) = 0 then some 4 else (if (lg_cmp x1_4_5 1852138852) = 0 then some 5 else some ((-1))))) else some f8))) fu 0 0 )

/-! RX7 number()I -/
def fX7_number (a_text : Nat → Int32) (a_length : Int32) (a_at : Int32) : Option (Int32 × Int32 × Int32 × Int32 × Int32) := (fX7_token a_text a_length a_at).bind (fun g1 => (if g1.2.1 = 2 then (if g1.2.2.2 ≤ 2 then (fX7_byteAt a_text a_length g1.2.2.1).bind (fun g4 => (if g1.2.2.2 = 2 then (fX7_byteAt a_text a_length (g1.2.2.1 + 1)).bind (fun g6 => some ((((10 * (g4 - 48)) + g6) - 48, g1.1, g1.2.1, g1.2.2.1, g1.2.2.2))) else some ((g4 - 48, g1.1, g1.2.1, g1.2.2.1, g1.2.2.2)))) else some (((-1), g1.1, g1.2.1, g1.2.2.1, g1.2.2.2))) else some (((-1), g1.1, g1.2.1, g1.2.2.1, g1.2.2.2))))

/-! RX7 numbers(I)I -/
def fX7_numbers (p0 : Int32) : Option (Int32) := (if p0 = 0 then some 1 else (if p0 = 1 then some 3 else (if p0 = 5 then some 3 else some 2)))

/-! RX7 reads()Z -/
def fX7_reads_95 (a_text : Nat → Int32) (a_length : Int32) (a_many_14 : Int32) (g2 : Int32) (f10 : Int32) (kx : Int32 → (Nat → Int32) → Int32 → Int32 → Int32 → Int32 → Option (Int32 × (Nat → Int32) × Int32 × Int32 × Int32 × Int32 × Int32)) : Nat → Int32 → (Nat → Int32) → Int32 → Int32 → Int32 → Int32 → Option (Int32 × (Nat → Int32) × Int32 × Int32 × Int32 × Int32 × Int32)
  | 0, _, _, _, _, _, _ => none
  | n + 1, x3_95, a_items_95, a_at_95, a_sort_95, a_start_95, a_size_95 => (fX7_numbers g2).bind (fun g12 => (if g12 < x3_95 then (kx x3_95 a_items_95 a_at_95 a_sort_95 a_start_95 a_size_95) else (fX7_number a_text a_length a_at_95).bind (fun g14 => (wrI 250 a_items_95 (f10 + x3_95) g14.1).bind (fun u15 => (rdI 250 u15 (f10 + x3_95)).bind (fun z16 => (if z16 = ((-1)) then some ((0, u15, a_many_14, g14.2.1, g14.2.2.1, g14.2.2.2.1, g14.2.2.2.2)) else (fX7_reads_95 a_text a_length a_many_14 g2 f10 kx n (x3_95 + 1) u15 g14.2.1 g14.2.2.1 g14.2.2.2.1 g14.2.2.2.2)))))))
def fX7_reads_J28 (a_text : Nat → Int32) (a_length : Int32) (kb kx : (Nat → Int32) → Int32 → Int32 → Int32 → Int32 → Int32 → Option (Int32 × (Nat → Int32) × Int32 × Int32 × Int32 × Int32 × Int32)) (a_items_14 : Nat → Int32) (a_many_14 : Int32) (a_at_14 : Int32) (a_sort_14 : Int32) (a_start_14 : Int32) (a_size_14 : Int32) : Option (Int32 × (Nat → Int32) × Int32 × Int32 × Int32 × Int32 × Int32) := (fX7_verb a_text a_length a_sort_14 a_start_14 a_size_14).bind (fun g2 => (if g2 = ((-1)) then some ((0, a_items_14, a_many_14, a_at_14, a_sort_14, a_start_14, a_size_14)) else (if g2 = 0 then some 1 else some 0 : Option (Int32)).bind (fun f5 => (if a_many_14 = 0 then some 1 else some 0 : Option (Int32)).bind (fun f7 => (if f5 = f7 then (if 62 ≤ a_many_14 then some 244 else some (4 * a_many_14) : Option (Int32)).bind (fun f10 => (wrI 250 a_items_14 f10 g2).bind (fun u11 => (fX7_reads_95 a_text a_length a_many_14 g2 f10 (fun x3_95_18 a_items_95_19 a_at_95_20 a_sort_95_21 a_start_95_22 a_size_95_23 => (fX7_token a_text a_length a_at_95_20).bind (fun g24 => (if g24.2.1 = 3 then (fX7_token a_text a_length g24.1).bind (fun g26 => (kb a_items_95_19 (a_many_14 + 1) g26.1 g26.2.1 g26.2.2.1 g26.2.2.2)) else some ((0, a_items_95_19, a_many_14, g24.1, g24.2.1, g24.2.2.1, g24.2.2.2))))) fu 1 u11 a_at_14 a_sort_14 a_start_14 a_size_14))) else some ((0, a_items_14, a_many_14, a_at_14, a_sort_14, a_start_14, a_size_14)))))))
def fX7_reads_14 (a_text : Nat → Int32) (a_length : Int32) (kx : (Nat → Int32) → Int32 → Int32 → Int32 → Int32 → Int32 → Option (Int32 × (Nat → Int32) × Int32 × Int32 × Int32 × Int32 × Int32)) : Nat → (Nat → Int32) → Int32 → Int32 → Int32 → Int32 → Int32 → Option (Int32 × (Nat → Int32) × Int32 × Int32 × Int32 × Int32 × Int32)
  | 0, _, _, _, _, _, _ => none
  | n + 1, a_items_14, a_many_14, a_at_14, a_sort_14, a_start_14, a_size_14 => (if a_many_14 = 0 then (fX7_reads_J28 a_text a_length (fX7_reads_14 a_text a_length kx n) kx a_items_14 a_many_14 a_at_14 a_sort_14 a_start_14 a_size_14) else (if a_sort_14 = 0 then (kx a_items_14 a_many_14 a_at_14 a_sort_14 a_start_14 a_size_14) else (fX7_reads_J28 a_text a_length (fX7_reads_14 a_text a_length kx n) kx a_items_14 a_many_14 a_at_14 a_sort_14 a_start_14 a_size_14)))
def fX7_reads (a_text : Nat → Int32) (a_length : Int32) (a_items : Nat → Int32) : Option (Int32 × (Nat → Int32) × Int32 × Int32 × Int32 × Int32 × Int32) := (fX7_token a_text a_length 0).bind (fun g1 => (fX7_reads_14 a_text a_length (fun a_items_14_29 a_many_14_30 a_at_14_31 a_sort_14_32 a_start_14_33 a_size_14_34 => some ((1, a_items_14_29, a_many_14_30, a_at_14_31, a_sort_14_32, a_start_14_33, a_size_14_34))) fu a_items 0 g1.1 g1.2.1 g1.2.2.1 g1.2.2.2))

/-! RX7 tells(I)I -/
def fX7_tells (a_book : Nat → Int32) (a_items : Nat → Int32) (p0 : Int32) : Option (Int32 × (Nat → Int32)) := (rdI 250 a_items (4 * p0)).bind (fun z1 => (rdI 250 a_items ((4 * p0) + 1)).bind (fun z2 => (rdI 250 a_items ((4 * p0) + 2)).bind (fun z3 => (rdI 250 a_items ((4 * p0) + 3)).bind (fun z4 => (if z1 = 0 then (fX7_in z2 2 6).bind (fun g15 => (if g15 = 0 then some (((-2), a_book)) else (fX7_begins a_book z2).bind (fun g17 => some ((1, g17))))) else (if z1 = 1 then (fX7_tellsHears a_book z2 z3 z4 1).bind (fun g14 => some ((g14.1, g14.2))) else (if z1 = 2 then (fX7_tellsWood a_book z2 z3).bind (fun g13 => some ((g13.1, g13.2))) else (if z1 = 3 then (fX7_tellsTemper a_book z2 z3).bind (fun g12 => some ((g12.1, g12.2))) else (if z1 = 4 then (fX7_tellsFriend a_book z2 z3).bind (fun g11 => some ((g11.1, g11.2))) else (fX7_tellsNeed a_book z2 z3 z4).bind (fun g10 => some ((g10.1, g10.2))))))))))))

/-! RX7 read()I -/
def fX7_read_17 (a_book : Nat → Int32) (kx : Int32 → (Nat → Int32) → Option (Int32 × (Nat → Int32) × (Nat → Int32) × (Nat → Int32) × Int32 × Int32 × Int32 × Int32 × Int32)) : Nat → Int32 → (Nat → Int32) → Option (Int32 × (Nat → Int32) × (Nat → Int32) × (Nat → Int32) × Int32 × Int32 × Int32 × Int32 × Int32)
  | 0, _, _ => none
  | n + 1, x1_17, a_spare_17 => (if 104 ≤ x1_17 then (kx x1_17 a_spare_17) else (rdI 104 a_book x1_17).bind (fun z4 => (wrI 104 a_spare_17 x1_17 z4).bind (fun u5 => (fX7_read_17 a_book kx n (x1_17 + 1) u5))))
def fX7_read_61 (a_spare_17_7 : Nat → Int32) (kx : Int32 → (Nat → Int32) → Option (Int32 × (Nat → Int32) × (Nat → Int32) × (Nat → Int32) × Int32 × Int32 × Int32 × Int32 × Int32)) : Nat → Int32 → (Nat → Int32) → Option (Int32 × (Nat → Int32) × (Nat → Int32) × (Nat → Int32) × Int32 × Int32 × Int32 × Int32 × Int32)
  | 0, _, _ => none
  | n + 1, x2_61, a_book_61 => (if 104 ≤ x2_61 then (kx x2_61 a_book_61) else (rdI 104 a_spare_17_7 x2_61).bind (fun z12 => (wrI 104 a_book_61 x2_61 z12).bind (fun u13 => (fX7_read_61 a_spare_17_7 kx n (x2_61 + 1) u13))))
def fX7_read_43 (g1 : Int32 × (Nat → Int32) × Int32 × Int32 × Int32 × Int32 × Int32) (a_spare_17_7 : Nat → Int32) (kx : Int32 → (Nat → Int32) → Option (Int32 × (Nat → Int32) × (Nat → Int32) × (Nat → Int32) × Int32 × Int32 × Int32 × Int32 × Int32)) : Nat → Int32 → (Nat → Int32) → Option (Int32 × (Nat → Int32) × (Nat → Int32) × (Nat → Int32) × Int32 × Int32 × Int32 × Int32 × Int32)
  | 0, _, _ => none
  | n + 1, x1_43, a_book_43 => (if g1.2.2.1 ≤ x1_43 then (kx x1_43 a_book_43) else (fX7_tells a_book_43 g1.2.1 x1_43).bind (fun g9 => (if 0 ≤ g9.1 then (fX7_read_43 g1 a_spare_17_7 kx n (x1_43 + 1) g9.2) else (fX7_read_61 a_spare_17_7 (fun x2_61_14 a_book_61_15 => some ((((-1000)) - x1_43, a_book_61_15, a_spare_17_7, g1.2.1, g1.2.2.1, g1.2.2.2.1, g1.2.2.2.2.1, g1.2.2.2.2.2.1, g1.2.2.2.2.2.2))) fu 0 g9.2))))
def fX7_read (a_book : Nat → Int32) (a_spare : Nat → Int32) (a_text : Nat → Int32) (a_length : Int32) (a_items : Nat → Int32) : Option (Int32 × (Nat → Int32) × (Nat → Int32) × (Nat → Int32) × Int32 × Int32 × Int32 × Int32 × Int32) := (fX7_reads a_text a_length a_items).bind (fun g1 => (if g1.1 = 0 then some ((((-10)) - g1.2.2.2.2.2.1, a_book, a_spare, g1.2.1, g1.2.2.1, g1.2.2.2.1, g1.2.2.2.2.1, g1.2.2.2.2.2.1, g1.2.2.2.2.2.2)) else (fX7_read_17 a_book (fun x1_17_6 a_spare_17_7 => (fX7_read_43 g1 a_spare_17_7 (fun x1_43_16 a_book_43_17 => some ((g1.2.2.1, a_book_43_17, a_spare_17_7, g1.2.1, g1.2.2.1, g1.2.2.2.1, g1.2.2.2.2.1, g1.2.2.2.2.2.1, g1.2.2.2.2.2.2))) fu 0 a_book)) fu 0 a_spare)))

/-! RX7 reaches(IIII)Z -/
def fX7_reaches_6 (p0 : Int32) (p1 : Int32) (p2 : Int32) (p3 : Int32) (a_book : Nat → Int32) (kx : Int32 → Int32 → Option (Int32)) : Nat → Int32 → Int32 → Option (Int32)
  | 0, _, _ => none
  | n + 1, x5_6, x6_6 => (rdI 104 a_book 0).bind (fun z1 => (if z1 ≤ x6_6 then (kx x5_6 x6_6) else (if x5_6 = 0 then (rdI 104 a_book (16 + x6_6)).bind (fun z4 => (if z4 = p0 then (fX7_sounds a_book x6_6 p2 p3).bind (fun g6 => (if ((g6 >>> (p1 &&& 31)) &&& 1) = 1 then (fX7_reaches_6 p0 p1 p2 p3 a_book kx n 1 (x6_6 + 1)) else (fX7_reaches_6 p0 p1 p2 p3 a_book kx n 0 (x6_6 + 1)))) else (fX7_reaches_6 p0 p1 p2 p3 a_book kx n 0 (x6_6 + 1)))) else (fX7_reaches_6 p0 p1 p2 p3 a_book kx n 1 (x6_6 + 1)))))
def fX7_reaches (a_book : Nat → Int32) (p0 : Int32) (p1 : Int32) (p2 : Int32) (p3 : Int32) : Option (Int32) := (fX7_reaches_6 p0 p1 p2 p3 a_book (fun x5_6_8 x6_6_9 => (zbI x5_6_8).bind (fun z10 => some z10)) fu 0 0 )

/-! RX7 dueFor(II)I -/
def fX7_dueFor_5 (p0 : Int32) (p1 : Int32) (a_book : Nat → Int32) (kx : Int32 → Int32 → Option (Int32)) : Nat → Int32 → Int32 → Option (Int32)
  | 0, _, _ => none
  | n + 1, x3_5, x4_5 => (rdI 104 a_book 0).bind (fun z1 => (if z1 ≤ x4_5 then (kx x3_5 x4_5) else (rdI 104 a_book (86 + p0)).bind (fun z3 => (if ((z3 >>> (x4_5 &&& 31)) &&& 1) = 1 then (rdI 104 a_book (62 + p0)).bind (fun z5 => (rdI 104 a_book (74 + p0)).bind (fun z6 => (fX7_reaches a_book x4_5 z5 z6 p1).bind (fun g7 => (if g7 = 0 then (fX7_dueFor_5 p0 p1 a_book kx n (x3_5 ||| 0) (x4_5 + 1)) else (fX7_dueFor_5 p0 p1 a_book kx n (x3_5 ||| (1 <<< (x4_5 &&& 31))) (x4_5 + 1)))))) else (fX7_dueFor_5 p0 p1 a_book kx n (x3_5 ||| 0) (x4_5 + 1))))))
def fX7_dueFor (a_book : Nat → Int32) (p0 : Int32) (p1 : Int32) : Option (Int32) := (fX7_dueFor_5 p0 p1 a_book (fun x3_5_9 x4_5_10 => some x3_5_9) fu 0 0 )

/-! RX7 rangAhead(III)I -/
def fX7_rangAhead_6 (p0 : Int32) (p1 : Int32) (p2 : Int32) (a_book : Nat → Int32) (a_rung : Nat → Int32) (kx : Int32 → Int32 → Option (Int32)) : Nat → Int32 → Int32 → Option (Int32)
  | 0, _, _ => none
  | n + 1, x4_6, x5_6 => (if p2 ≤ x5_6 then (kx x4_6 x5_6) else (rdI 104 a_book (62 + x5_6)).bind (fun z2 => (if z2 = p1 then (rdI 12 a_rung x5_6).bind (fun z4 => (fX7_rangAhead_6 p0 p1 p2 a_book a_rung kx n (x4_6 + ((z4 >>> (p0 &&& 31)) &&& 1)) (x5_6 + 1))) else (fX7_rangAhead_6 p0 p1 p2 a_book a_rung kx n (x4_6 + 0) (x5_6 + 1)))))
def fX7_rangAhead (a_book : Nat → Int32) (a_rung : Nat → Int32) (p0 : Int32) (p1 : Int32) (p2 : Int32) : Option (Int32) := (fX7_rangAhead_6 p0 p1 p2 a_book a_rung (fun x4_6_5 x5_6_6 => some x4_6_5) fu 0 0 )

/-! RX7 lastAhead(III)I -/
def fX7_lastAhead_6 (p0 : Int32) (p1 : Int32) (p2 : Int32) (a_book : Nat → Int32) (a_due : Nat → Int32) (a_rung : Nat → Int32) (kx : Int32 → Int32 → Option (Int32)) : Nat → Int32 → Int32 → Option (Int32)
  | 0, _, _ => none
  | n + 1, x4_6, x5_6 => (if p2 ≤ x5_6 then (kx x4_6 x5_6) else (rdI 104 a_book (62 + x5_6)).bind (fun z2 => (if z2 = p1 then (rdI 12 a_due x5_6).bind (fun z4 => (if ((z4 >>> (p0 &&& 31)) &&& 1) = 1 then (rdI 12 a_rung x5_6).bind (fun z6 => (fX7_lastAhead_6 p0 p1 p2 a_book a_due a_rung kx n ((z6 >>> (p0 &&& 31)) &&& 1) (x5_6 + 1))) else (fX7_lastAhead_6 p0 p1 p2 a_book a_due a_rung kx n x4_6 (x5_6 + 1)))) else (fX7_lastAhead_6 p0 p1 p2 a_book a_due a_rung kx n x4_6 (x5_6 + 1)))))
def fX7_lastAhead (a_book : Nat → Int32) (a_due : Nat → Int32) (a_rung : Nat → Int32) (p0 : Int32) (p1 : Int32) (p2 : Int32) : Option (Int32) := (fX7_lastAhead_6 p0 p1 p2 a_book a_due a_rung (fun x4_6_7 x5_6_8 => some x4_6_7) fu ((-1)) 0 )

/-! RX7 rings(II)Z -/
def fX7_rings (a_book : Nat → Int32) (a_due : Nat → Int32) (a_rung : Nat → Int32) (p0 : Int32) (p1 : Int32) : Option (Int32) := (rdI 104 a_book (62 + p1)).bind (fun z1 => (rdI 104 a_book (4 + p0)).bind (fun z2 => (fX7_lastAhead a_book a_due a_rung z1 p0 p1).bind (fun g3 => (if g3 = 0 then some 0 else some 1 : Option (Int32)).bind (fun f5 => (if z2 = 2 then (if p1 ≤ 0 then some 0 else (if p1 ≤ 0 then some 0 else some (p1 - 1) : Option (Int32)).bind (fun f20 => (rdI 104 a_book (62 + f20)).bind (fun z21 => (if z21 = p0 then (if p1 ≤ 0 then some 0 else some (p1 - 1) : Option (Int32)).bind (fun f24 => (rdI 12 a_rung f24).bind (fun z25 => (if z25 = 0 then some 1 else some 0))) else some 0))) : Option (Int32)).bind (fun f18 => (if f5 = 0 then some 0 else (if f18 = 0 then some 1 else some 0))) else (if z2 = 4 then (fX7_rangAhead a_book a_rung z1 p0 p1).bind (fun g14 => (fX7_rangAhead a_book a_rung p0 z1 p1).bind (fun g15 => (if g14 ≤ g15 then some 0 else some 1))) else (if z2 = 1 then (zbI f5).bind (fun z13 => some z13) else (if z2 = 3 then (if f5 = 0 then (rdI 104 a_book (10 + p0)).bind (fun z11 => (if z11 = z1 then some 1 else some 0)) else some 1) else some 1))))))))

/-! RX7 runs()V -/
def fX7_runs_30 (a_book : Nat → Int32) (x1_2 : Int32) (a_rung_2 : Nat → Int32) (u4 : Nat → Int32) (kx : Int32 → Int32 → Option ((Nat → Int32) × (Nat → Int32))) : Nat → Int32 → Int32 → Option ((Nat → Int32) × (Nat → Int32))
  | 0, _, _ => none
  | n + 1, x2_30, x3_30 => (rdI 104 a_book 0).bind (fun z5 => (if z5 ≤ x3_30 then (kx x2_30 x3_30) else (rdI 12 u4 x1_2).bind (fun z7 => (if ((z7 >>> (x3_30 &&& 31)) &&& 1) = 1 then (fX7_rings a_book u4 a_rung_2 x3_30 x1_2).bind (fun g9 => (if g9 = 0 then (fX7_runs_30 a_book x1_2 a_rung_2 u4 kx n (x2_30 ||| 0) (x3_30 + 1)) else (fX7_runs_30 a_book x1_2 a_rung_2 u4 kx n (x2_30 ||| (1 <<< (x3_30 &&& 31))) (x3_30 + 1)))) else (fX7_runs_30 a_book x1_2 a_rung_2 u4 kx n (x2_30 ||| 0) (x3_30 + 1))))))
def fX7_runs_2 (a_book : Nat → Int32) (kx : Int32 → (Nat → Int32) → (Nat → Int32) → Option ((Nat → Int32) × (Nat → Int32))) : Nat → Int32 → (Nat → Int32) → (Nat → Int32) → Option ((Nat → Int32) × (Nat → Int32))
  | 0, _, _, _ => none
  | n + 1, x1_2, a_due_2, a_rung_2 => (rdI 104 a_book 2).bind (fun z1 => (if z1 ≤ x1_2 then (kx x1_2 a_due_2 a_rung_2) else (fX7_dueFor a_book x1_2 255).bind (fun g3 => (wrI 12 a_due_2 x1_2 g3).bind (fun u4 => (fX7_runs_30 a_book x1_2 a_rung_2 u4 (fun x2_30_11 x3_30_12 => (wrI 12 a_rung_2 x1_2 x2_30_11).bind (fun u13 => (fX7_runs_2 a_book kx n (x1_2 + 1) u4 u13))) fu 0 0 )))))
def fX7_runs (a_book : Nat → Int32) (a_due : Nat → Int32) (a_rung : Nat → Int32) : Option ((Nat → Int32) × (Nat → Int32)) := (fX7_runs_2 a_book (fun x1_2_14 a_due_2_15 a_rung_2_16 => some ((a_due_2_15, a_rung_2_16))) fu 0 a_due a_rung)

/-! RX7 rang(II)I -/
def fX7_rang (a_book : Nat → Int32) (a_refused : Nat → Int32) (a_due : Nat → Int32) (a_rung : Nat → Int32) (p0 : Int32) (p1 : Int32) : Option (Int32 × (Nat → Int32) × (Nat → Int32) × (Nat → Int32)) := (rdI 104 a_book 2).bind (fun z1 => (fX7_in p0 0 (z1 - 1)).bind (fun g2 => (if g2 = 0 then (fX7_bad a_refused).bind (fun g4 => some ((g4.1, g4.2, a_due, a_rung))) else (fX7_in p1 0 1).bind (fun g5 => (if g5 = 0 then (fX7_bad a_refused).bind (fun g11 => some ((g11.1, g11.2, a_due, a_rung))) else (fX7_runs a_book a_due a_rung).bind (fun g7 => (if p1 = 0 then (rdI 12 g7.1 p0).bind (fun z10 => some ((z10, a_refused, g7.1, g7.2))) else (rdI 12 g7.2 p0).bind (fun z9 => some ((z9, a_refused, g7.1, g7.2))))))))))

/-! RX7 helped(I)I -/
def fX7_helped_29 (p0 : Int32) (a_book : Nat → Int32) (g4 : (Nat → Int32) × (Nat → Int32)) (kx : Int32 → Int32 → Option (Int32 × (Nat → Int32) × (Nat → Int32) × (Nat → Int32))) : Nat → Int32 → Int32 → Option (Int32 × (Nat → Int32) × (Nat → Int32) × (Nat → Int32))
  | 0, _, _ => none
  | n + 1, x2_29, x3_29 => (rdI 104 a_book 2).bind (fun z5 => (if z5 ≤ x3_29 then (kx x2_29 x3_29) else (rdI 12 g4.2 x3_29).bind (fun z7 => (if z7 = 0 then (fX7_helped_29 p0 a_book g4 kx n (x2_29 + 0) (x3_29 + 1)) else (if p0 = ((-1)) then (fX7_helped_29 p0 a_book g4 kx n (x2_29 + 1) (x3_29 + 1)) else (rdI 104 a_book (62 + x3_29)).bind (fun z10 => (if z10 = p0 then (fX7_helped_29 p0 a_book g4 kx n (x2_29 + 1) (x3_29 + 1)) else (fX7_helped_29 p0 a_book g4 kx n (x2_29 + 0) (x3_29 + 1)))))))))
def fX7_helped (a_book : Nat → Int32) (a_refused : Nat → Int32) (a_due : Nat → Int32) (a_rung : Nat → Int32) (p0 : Int32) : Option (Int32 × (Nat → Int32) × (Nat → Int32) × (Nat → Int32)) := (rdI 104 a_book 0).bind (fun z1 => (fX7_in p0 ((-1)) (z1 - 1)).bind (fun g2 => (if g2 = 0 then (fX7_bad a_refused).bind (fun g14 => some ((g14.1, g14.2, a_due, a_rung))) else (fX7_runs a_book a_due a_rung).bind (fun g4 => (fX7_helped_29 p0 a_book g4 (fun x2_29_12 x3_29_13 => some ((x2_29_12, a_refused, g4.1, g4.2))) fu 0 0 )))))

/-! RX7 isTwo(II)Z -/
def fX7_isTwo (a_book : Nat → Int32) (p0 : Int32) (p1 : Int32) : Option (Int32) := (fX7_isOne a_book p0).bind (fun g1 => (if g1 = 0 then some 0 else (fX7_isOne a_book p1).bind (fun g3 => (if g3 = 0 then some 0 else (if p0 = p1 then some 0 else some 1)))))

/-! RX7 favours(II)I -/
def fX7_favours (a_book : Nat → Int32) (a_refused : Nat → Int32) (a_due : Nat → Int32) (a_rung : Nat → Int32) (p0 : Int32) (p1 : Int32) : Option (Int32 × (Nat → Int32) × (Nat → Int32) × (Nat → Int32)) := (fX7_isTwo a_book p0 p1).bind (fun g1 => (if g1 = 0 then (fX7_bad a_refused).bind (fun g6 => some ((g6.1, g6.2, a_due, a_rung))) else (fX7_runs a_book a_due a_rung).bind (fun g3 => (rdI 104 a_book 2).bind (fun z4 => (fX7_rangAhead a_book g3.2 p0 p1 z4).bind (fun g5 => some ((g5, a_refused, g3.1, g3.2)))))))

/-! RX7 last(II)I -/
def fX7_last (a_book : Nat → Int32) (a_refused : Nat → Int32) (a_due : Nat → Int32) (a_rung : Nat → Int32) (p0 : Int32) (p1 : Int32) : Option (Int32 × (Nat → Int32) × (Nat → Int32) × (Nat → Int32)) := (fX7_isTwo a_book p0 p1).bind (fun g1 => (if g1 = 0 then (fX7_bad a_refused).bind (fun g6 => some ((g6.1, g6.2, a_due, a_rung))) else (fX7_runs a_book a_due a_rung).bind (fun g3 => (rdI 104 a_book 2).bind (fun z4 => (fX7_lastAhead a_book g3.1 g3.2 p0 p1 z4).bind (fun g5 => some ((g5, a_refused, g3.1, g3.2)))))))

/-! RX7 digit(III)I -/
def fX7_digit_8 (p2 : Int32) (a_book : Nat → Int32) (kx : Int32 → Int32 → Option (Int32)) : Nat → Int32 → Int32 → Option (Int32)
  | 0, _, _ => none
  | n + 1, x4_8, x5_8 => (if x5_8 ≤ p2 then (kx x4_8 x5_8) else (rdI 104 a_book 0).bind (fun z2 => (dvI x4_8 z2).bind (fun z3 => (fX7_digit_8 p2 a_book kx n z3 (x5_8 + (-1))))))
def fX7_digit (a_book : Nat → Int32) (p0 : Int32) (p1 : Int32) (p2 : Int32) : Option (Int32) := (fX7_digit_8 p2 a_book (fun x4_8_4 x5_8_5 => (rdI 104 a_book 0).bind (fun z6 => (rmI x4_8_4 z6).bind (fun z7 => some z7))) fu p0 (p1 - 1) )

/-! RX7 rows(I)I -/
def fX7_rows_4 (p0 : Int32) (a_book : Nat → Int32) (kx : Int32 → Int32 → Option (Int32)) : Nat → Int32 → Int32 → Option (Int32)
  | 0, _, _ => none
  | n + 1, x2_4, x3_4 => (if p0 ≤ x3_4 then (kx x2_4 x3_4) else (rdI 104 a_book 0).bind (fun z2 => (fX7_rows_4 p0 a_book kx n (x2_4 * z2) (x3_4 + 1))))
def fX7_rows (a_book : Nat → Int32) (p0 : Int32) : Option (Int32) := (fX7_rows_4 p0 a_book (fun x2_4_3 x3_4_4 => some x2_4_3) fu 1 0 )

/-! RX7 areUnlike(II)Z -/
def fX7_areUnlike_8 (p0 : Int32) (p1 : Int32) (a_book : Nat → Int32) (kx : Int32 → Int32 → Int32 → Option (Int32)) : Nat → Int32 → Int32 → Int32 → Option (Int32)
  | 0, _, _, _ => none
  | n + 1, x3_8, x4_8, x5_8 => (if p1 ≤ x5_8 then (kx x3_8 x4_8 x5_8) else (fX7_digit a_book p0 p1 x5_8).bind (fun g2 => (if x4_8 = 0 then some 0 else (if (x3_8 &&& (1 <<< (g2 &&& 31))) = 0 then some 1 else some 0) : Option (Int32)).bind (fun f4 => (fX7_areUnlike_8 p0 p1 a_book kx n (x3_8 ||| (1 <<< (g2 &&& 31))) f4 (x5_8 + 1)))))
def fX7_areUnlike (a_book : Nat → Int32) (p0 : Int32) (p1 : Int32) : Option (Int32) := (fX7_areUnlike_8 p0 p1 a_book (fun x3_8_6 x4_8_7 x5_8_8 => (zbI x4_8_7).bind (fun z9 => some z9)) fu 0 1 0 )

/-! RX7 dues(I)I -/
def fX7_dues_20 (p0 : Int32) (a_book : Nat → Int32) (x3_4 : Int32) (kx : Int32 → Int32 → Option (Int32)) : Nat → Int32 → Int32 → Option (Int32)
  | 0, _, _ => none
  | n + 1, x4_20, x5_20 => (rdI 104 a_book 0).bind (fun z3 => (if z3 ≤ x5_20 then (kx x4_20 x5_20) else (if x4_20 = 0 then (rdI 104 a_book (86 + x3_4)).bind (fun z6 => (rdI 104 a_book 0).bind (fun z7 => (fX7_digit a_book p0 z7 x5_20).bind (fun g8 => (if ((z6 >>> (g8 &&& 31)) &&& 1) = 1 then (rdI 104 a_book (74 + x3_4)).bind (fun z10 => (fX7_hall a_book x5_20 z10).bind (fun g11 => (rdI 104 a_book (62 + x3_4)).bind (fun z12 => (if ((g11 >>> (z12 &&& 31)) &&& 1) = 1 then (fX7_dues_20 p0 a_book x3_4 kx n 1 (x5_20 + 1)) else (fX7_dues_20 p0 a_book x3_4 kx n 0 (x5_20 + 1)))))) else (fX7_dues_20 p0 a_book x3_4 kx n 0 (x5_20 + 1)))))) else (fX7_dues_20 p0 a_book x3_4 kx n 1 (x5_20 + 1)))))
def fX7_dues_4 (p0 : Int32) (a_book : Nat → Int32) (kx : Int32 → Int32 → Option (Int32)) : Nat → Int32 → Int32 → Option (Int32)
  | 0, _, _ => none
  | n + 1, x2_4, x3_4 => (rdI 104 a_book 2).bind (fun z1 => (if z1 ≤ x3_4 then (kx x2_4 x3_4) else (fX7_dues_20 p0 a_book x3_4 (fun x4_20_14 x5_20_15 => (if x4_20_14 = 0 then (fX7_dues_4 p0 a_book kx n (x2_4 + 0) (x3_4 + 1)) else (fX7_dues_4 p0 a_book kx n (x2_4 + 1) (x3_4 + 1)))) fu 0 0 )))
def fX7_dues (a_book : Nat → Int32) (p0 : Int32) : Option (Int32) := (fX7_dues_4 p0 a_book (fun x2_4_17 x3_4_18 => some x2_4_17) fu 0 0 )

/-! RX7 places()V -/
def fX7_places_21 (a_book : Nat → Int32) (x1_2 : Int32) (kx : Int32 → (Nat → Int32) → Option ((Nat → Int32))) : Nat → Int32 → (Nat → Int32) → Option ((Nat → Int32))
  | 0, _, _ => none
  | n + 1, x2_21, a_anywhere_21 => (if 4 ≤ x2_21 then (kx x2_21 a_anywhere_21) else (rdI 6 a_anywhere_21 x1_2).bind (fun z5 => (fX7_hall a_book x1_2 x2_21).bind (fun g6 => (wrI 6 a_anywhere_21 x1_2 (z5 ||| g6)).bind (fun u7 => (fX7_places_21 a_book x1_2 kx n (x2_21 + 1) u7)))))
def fX7_places_2 (a_book : Nat → Int32) (kx : Int32 → (Nat → Int32) → Option ((Nat → Int32))) : Nat → Int32 → (Nat → Int32) → Option ((Nat → Int32))
  | 0, _, _ => none
  | n + 1, x1_2, a_anywhere_2 => (rdI 104 a_book 0).bind (fun z1 => (if z1 ≤ x1_2 then (kx x1_2 a_anywhere_2) else (wrI 6 a_anywhere_2 x1_2 0).bind (fun u3 => (fX7_places_21 a_book x1_2 (fun x2_21_8 a_anywhere_21_9 => (fX7_places_2 a_book kx n (x1_2 + 1) a_anywhere_21_9)) fu 0 u3))))
def fX7_places (a_book : Nat → Int32) (a_anywhere : Nat → Int32) : Option ((Nat → Int32)) := (fX7_places_2 a_book (fun x1_2_10 a_anywhere_2_11 => some a_anywhere_2_11) fu 0 a_anywhere)

/-! RX7 ropes(I)I -/
def fX7_ropes_67 (a_book : Nat → Int32) (g4 : (Nat → Int32)) (x4_35 : Int32) (kx : Int32 → Int32 → Option (Int32 × (Nat → Int32) × (Nat → Int32))) : Nat → Int32 → Int32 → Option (Int32 × (Nat → Int32) × (Nat → Int32))
  | 0, _, _ => none
  | n + 1, x5_67, x6_67 => (rdI 104 a_book 0).bind (fun z10 => (if z10 ≤ x6_67 then (kx x5_67 x6_67) else (if x5_67 = 0 then (kx x5_67 x6_67) else (rdI 6 g4 x6_67).bind (fun z13 => (rdI 104 a_book 0).bind (fun z14 => (fX7_digit a_book x4_35 z14 x6_67).bind (fun g15 => (if ((z13 >>> (g15 &&& 31)) &&& 1) = 0 then (fX7_ropes_67 a_book g4 x4_35 kx n 1 (x6_67 + 1)) else (fX7_ropes_67 a_book g4 x4_35 kx n 0 (x6_67 + 1)))))))))
def fX7_ropes_35 (a_book : Nat → Int32) (g4 : (Nat → Int32)) (kx : Int32 → Int32 → Int32 → Option (Int32 × (Nat → Int32) × (Nat → Int32))) : Nat → Int32 → Int32 → Int32 → Option (Int32 × (Nat → Int32) × (Nat → Int32))
  | 0, _, _, _ => none
  | n + 1, x2_35, x3_35, x4_35 => (rdI 104 a_book 0).bind (fun z5 => (fX7_rows a_book z5).bind (fun g6 => (if g6 ≤ x4_35 then (kx x2_35 x3_35 x4_35) else (rdI 104 a_book 0).bind (fun z8 => (fX7_areUnlike a_book x4_35 z8).bind (fun g9 => (fX7_ropes_67 a_book g4 x4_35 (fun x5_67_17 x6_67_18 => (if x5_67_17 = 0 then some ((-1)) else (fX7_dues a_book x4_35).bind (fun g21 => some g21) : Option (Int32)).bind (fun f20 => (if f20 ≤ x2_35 then some x3_35 else some x4_35 : Option (Int32)).bind (fun f23 => (if f20 ≤ x2_35 then (fX7_ropes_35 a_book g4 kx n x2_35 f23 (x4_35 + 1)) else (fX7_ropes_35 a_book g4 kx n f20 f23 (x4_35 + 1)))))) fu g9 0 ))))))
def fX7_ropes (a_book : Nat → Int32) (a_refused : Nat → Int32) (a_anywhere : Nat → Int32) (p0 : Int32) : Option (Int32 × (Nat → Int32) × (Nat → Int32)) := (rdI 104 a_book 0).bind (fun z1 => (fX7_in p0 ((-1)) (z1 - 1)).bind (fun g2 => (if g2 = 0 then (fX7_refuses a_refused 0 ((-10))).bind (fun g32 => some ((g32.1, g32.2, a_anywhere))) else (fX7_places a_book a_anywhere).bind (fun g4 => (fX7_ropes_35 a_book g4 (fun x2_35_25 x3_35_26 x4_35_27 => (if p0 = ((-1)) then some ((x2_35_25, a_refused, g4)) else (if x2_35_25 = ((-1)) then some ((x2_35_25, a_refused, g4)) else (rdI 104 a_book 0).bind (fun z30 => (fX7_digit a_book x3_35_26 z30 p0).bind (fun g31 => some ((g31, a_refused, g4))))))) fu ((-1)) 0 0 )))))

/-! RX7 rope(I)I -/
def fX7_rope (a_book : Nat → Int32) (a_refused : Nat → Int32) (p0 : Int32) : Option (Int32 × (Nat → Int32)) := (fX7_isOne a_book p0).bind (fun g1 => (if g1 = 0 then (fX7_bad a_refused).bind (fun g3 => some ((g3.1, g3.2))) else (rdI 104 a_book (16 + p0)).bind (fun z4 => some ((z4, a_refused)))))

/-! RX7 favoured(II)Z -/
def fX7_favoured_5 (p0 : Int32) (p1 : Int32) (a_book : Nat → Int32) (a_anywhere : Nat → Int32) (kx : Int32 → Int32 → Option (Int32)) : Nat → Int32 → Int32 → Option (Int32)
  | 0, _, _ => none
  | n + 1, x3_5, x4_5 => (rdI 104 a_book 0).bind (fun z1 => (if z1 ≤ x4_5 then (kx x3_5 x4_5) else (if x3_5 = 0 then (rdI 104 a_book (16 + x4_5)).bind (fun z4 => (if z4 = p0 then (rdI 6 a_anywhere x4_5).bind (fun z6 => (if ((z6 >>> (p1 &&& 31)) &&& 1) = 1 then (fX7_favoured_5 p0 p1 a_book a_anywhere kx n 1 (x4_5 + 1)) else (fX7_favoured_5 p0 p1 a_book a_anywhere kx n 0 (x4_5 + 1)))) else (fX7_favoured_5 p0 p1 a_book a_anywhere kx n 0 (x4_5 + 1)))) else (fX7_favoured_5 p0 p1 a_book a_anywhere kx n 1 (x4_5 + 1)))))
def fX7_favoured (a_book : Nat → Int32) (a_anywhere : Nat → Int32) (p0 : Int32) (p1 : Int32) : Option (Int32) := (fX7_favoured_5 p0 p1 a_book a_anywhere (fun x3_5_8 x4_5_9 => (zbI x3_5_8).bind (fun z10 => some z10)) fu 0 0 )

/-! RX7 isRing(II)Z -/
def fX7_isRing_10 (p0 : Int32) (p1 : Int32) (a_book : Nat → Int32) (a_anywhere : Nat → Int32) (kx : Int32 → Int32 → Option (Int32)) : Nat → Int32 → Int32 → Option (Int32)
  | 0, _, _ => none
  | n + 1, x3_10, x4_10 => (if p1 ≤ x4_10 then (kx x3_10 x4_10) else (if x3_10 = 0 then (kx x3_10 x4_10) else (fX7_digit a_book p0 p1 x4_10).bind (fun g4 => (fX7_digit a_book p0 p1 0).bind (fun g5 => (if g4 < g5 then (fX7_isRing_10 p0 p1 a_book a_anywhere kx n 0 (x4_10 + 1)) else (rmI (x4_10 + 1) p1).bind (fun z7 => (fX7_digit a_book p0 p1 z7).bind (fun g8 => (fX7_favoured a_book a_anywhere g4 g8).bind (fun g9 => (if g9 = 0 then (fX7_isRing_10 p0 p1 a_book a_anywhere kx n 0 (x4_10 + 1)) else (fX7_isRing_10 p0 p1 a_book a_anywhere kx n 1 (x4_10 + 1)))))))))))
def fX7_isRing (a_book : Nat → Int32) (a_anywhere : Nat → Int32) (p0 : Int32) (p1 : Int32) : Option (Int32) := (fX7_areUnlike a_book p0 p1).bind (fun g1 => (fX7_isRing_10 p0 p1 a_book a_anywhere (fun x3_10_11 x4_10_12 => (zbI x3_10_11).bind (fun z13 => some z13)) fu g1 0 ))

/-! RX7 ring(I)I -/
def fX7_ring_31 (p0 : Int32) (a_book : Nat → Int32) (a_refused : Nat → Int32) (g2 : (Nat → Int32)) (x2_19 : Int32) (kx : Int32 → Option (Int32 × (Nat → Int32) × (Nat → Int32))) : Nat → Int32 → Option (Int32 × (Nat → Int32) × (Nat → Int32))
  | 0, _ => none
  | n + 1, x3_31 => (fX7_rows a_book x2_19).bind (fun g5 => (if g5 ≤ x3_31 then (kx x3_31) else (fX7_isRing a_book g2 x3_31 x2_19).bind (fun g7 => (if g7 = 0 then (fX7_ring_31 p0 a_book a_refused g2 x2_19 kx n (x3_31 + 1)) else (if p0 = ((-1)) then some ((x2_19, a_refused, g2)) else (if x2_19 ≤ p0 then some (((-5), a_refused, g2)) else (fX7_digit a_book x3_31 x2_19 p0).bind (fun g11 => some ((g11, a_refused, g2)))))))))
def fX7_ring_19 (p0 : Int32) (a_book : Nat → Int32) (a_refused : Nat → Int32) (g2 : (Nat → Int32)) (kx : Int32 → Option (Int32 × (Nat → Int32) × (Nat → Int32))) : Nat → Int32 → Option (Int32 × (Nat → Int32) × (Nat → Int32))
  | 0, _ => none
  | n + 1, x2_19 => (rdI 104 a_book 0).bind (fun z3 => (if z3 < x2_19 then (kx x2_19) else (fX7_ring_31 p0 a_book a_refused g2 x2_19 (fun x3_31_12 => (fX7_ring_19 p0 a_book a_refused g2 kx n (x2_19 + 1))) fu 0 )))
def fX7_ring (a_book : Nat → Int32) (a_refused : Nat → Int32) (a_anywhere : Nat → Int32) (p0 : Int32) : Option (Int32 × (Nat → Int32) × (Nat → Int32)) := (if ((-1)) ≤ p0 then (fX7_places a_book a_anywhere).bind (fun g2 => (fX7_ring_19 p0 a_book a_refused g2 (fun x2_19_13 => (if p0 = ((-1)) then some ((0, a_refused, g2)) else some (((-5), a_refused, g2)))) fu 2 )) else (fX7_refuses a_refused 0 ((-10))).bind (fun g15 => some ((g15.1, g15.2, a_anywhere))))

/-! RX7 word(III)I -/
def fX7_word_54 (p1 : Int32) (a_book : Nat → Int32) (x4_42 : Int32) (kx : Int32 → Int32 → Option (Int32 × (Nat → Int32))) : Nat → Int32 → Int32 → Option (Int32 × (Nat → Int32))
  | 0, _, _ => none
  | n + 1, x7_54, x8_54 => (rdI 104 a_book 0).bind (fun z10 => (if z10 ≤ x8_54 then (kx x7_54 x8_54) else (rdI 104 a_book (16 + x8_54)).bind (fun z12 => (if ((x4_42 >>> (z12 &&& 31)) &&& 1) = 1 then (fX7_hall a_book x8_54 p1).bind (fun g14 => (fX7_word_54 p1 a_book x4_42 kx n (x7_54 ||| g14) (x8_54 + 1))) else (fX7_word_54 p1 a_book x4_42 kx n (x7_54 ||| 0) (x8_54 + 1))))))
def fX7_word_42 (p1 : Int32) (a_book : Nat → Int32) (kx : Int32 → Int32 → Int32 → Option (Int32 × (Nat → Int32))) : Nat → Int32 → Int32 → Int32 → Option (Int32 × (Nat → Int32))
  | 0, _, _, _ => none
  | n + 1, x4_42, x5_42, x6_42 => (if x6_42 = 0 then (kx x4_42 x5_42 x6_42) else (fX7_word_54 p1 a_book x4_42 (fun x7_54_15 x8_54_16 => (if x7_54_15 = x4_42 then some 0 else some 1 : Option (Int32)).bind (fun f18 => (if f18 = 0 then (fX7_word_42 p1 a_book kx n x7_54_15 (x5_42 + 0) f18) else (fX7_word_42 p1 a_book kx n x7_54_15 (x5_42 + 1) f18)))) fu x4_42 0 ))
def fX7_word (a_book : Nat → Int32) (a_refused : Nat → Int32) (p0 : Int32) (p1 : Int32) (p2 : Int32) : Option (Int32 × (Nat → Int32)) := (fX7_isOne a_book p0).bind (fun g1 => (if g1 = 0 then (fX7_bad a_refused).bind (fun g3 => some ((g3.1, g3.2))) else (fX7_in p1 0 3).bind (fun g4 => (if g4 = 0 then (fX7_bad a_refused).bind (fun g6 => some ((g6.1, g6.2))) else (fX7_in p2 0 1).bind (fun g7 => (if g7 = 0 then (fX7_bad a_refused).bind (fun g24 => some ((g24.1, g24.2))) else (fX7_word_42 p1 a_book (fun x4_42_20 x5_42_21 x6_42_22 => (if p2 = 0 then some ((x5_42_21, a_refused)) else some ((x4_42_20, a_refused)))) fu (1 <<< (p0 &&& 31)) 0 1 )))))))

/-! RX7 ones(I)I -/
def fX7_ones_4 (p0 : Int32) (kx : Int32 → Int32 → Option (Int32)) : Nat → Int32 → Int32 → Option (Int32)
  | 0, _, _ => none
  | n + 1, x1_4, x2_4 => (if 8 ≤ x2_4 then (kx x1_4 x2_4) else (fX7_ones_4 p0 kx n (x1_4 + ((p0 >>> (x2_4 &&& 31)) &&& 1)) (x2_4 + 1)))
def fX7_ones (p0 : Int32) : Option (Int32) := (fX7_ones_4 p0 (fun x1_4_2 x2_4_3 => some x1_4_2) fu 0 0 )

/-! RX7 fell()I -/
def fX7_fell_46 (a_book : Nat → Int32) (z1 : Int32) (x3_15 : Int32) (kx : Int32 → Int32 → Option (Int32)) : Nat → Int32 → Int32 → Option (Int32)
  | 0, _, _ => none
  | n + 1, x4_46, x5_46 => (rdI 104 a_book 2).bind (fun z8 => (if z8 ≤ x5_46 then (kx x4_46 x5_46) else (if x4_46 = 0 then (kx x4_46 x5_46) else (fX7_dueFor a_book x5_46 (((1 <<< (z1 &&& 31)) - 1) &&& (x3_15 ^^^ ((-1))))).bind (fun g11 => (if g11 = 0 then (fX7_fell_46 a_book z1 x3_15 kx n 0 (x5_46 + 1)) else (fX7_fell_46 a_book z1 x3_15 kx n 1 (x5_46 + 1)))))))
def fX7_fell_15 (a_book : Nat → Int32) (z1 : Int32) (kx : Int32 → Int32 → Option (Int32)) : Nat → Int32 → Int32 → Option (Int32)
  | 0, _, _ => none
  | n + 1, x2_15, x3_15 => (if ((1 <<< (z1 &&& 31)) - 1) < x3_15 then (kx x2_15 x3_15) else (if x2_15 = ((-1)) then some 1 else (fX7_ones x3_15).bind (fun g5 => (fX7_ones x2_15).bind (fun g6 => (if g6 ≤ g5 then some 0 else some 1))) : Option (Int32)).bind (fun f4 => (fX7_fell_46 a_book z1 x3_15 (fun x4_46_13 x5_46_14 => (if x4_46_13 = 0 then (fX7_fell_15 a_book z1 kx n x2_15 (x3_15 + 1)) else (fX7_fell_15 a_book z1 kx n x3_15 (x3_15 + 1)))) fu f4 0 )))
def fX7_fell (a_book : Nat → Int32) : Option (Int32) := (rdI 104 a_book 1).bind (fun z1 => (fX7_fell_15 a_book z1 (fun x2_15_16 x3_15_17 => some x2_15_16) fu ((-1)) 0 ))

/-! RX7 sign(I)I -/
def fX7_sign_11 (p0 : Int32) (a_book : Nat → Int32) (kx : Int32 → Int32 → Option (Int32 × (Nat → Int32) × (Nat → Int32))) : Nat → Int32 → Int32 → Option (Int32 × (Nat → Int32) × (Nat → Int32))
  | 0, _, _ => none
  | n + 1, x2_11, x3_11 => (rdI 104 a_book 3).bind (fun z2 => (if z2 ≤ x3_11 then (kx x2_11 x3_11) else (if x2_11 = 0 then (fX7_sign_11 p0 a_book kx n 0 (x3_11 + 1)) else (rdI 104 a_book (98 + x3_11)).bind (fun z5 => (if z5 = p0 then (fX7_sign_11 p0 a_book kx n 0 (x3_11 + 1)) else (fX7_sign_11 p0 a_book kx n 1 (x3_11 + 1)))))))
def fX7_sign (a_book : Nat → Int32) (a_refused : Nat → Int32) (p0 : Int32) : Option (Int32 × (Nat → Int32) × (Nat → Int32)) := (fX7_in p0 1 255).bind (fun g1 => (fX7_sign_11 p0 a_book (fun x2_11_7 x3_11_8 => (if x2_11_7 = 0 then (fX7_bad a_refused).bind (fun g18 => some ((g18.1, a_book, g18.2))) else (rdI 104 a_book 3).bind (fun z10 => (if z10 = 6 then (fX7_refuses a_refused 2 ((-4))).bind (fun g17 => some ((g17.1, a_book, g17.2))) else (rdI 104 a_book 3).bind (fun z12 => (wrI 104 a_book (98 + z12) p0).bind (fun u13 => (rdI 104 u13 3).bind (fun z14 => (wrI 104 u13 3 (z14 + 1)).bind (fun u15 => (rdI 104 u15 3).bind (fun z16 => some ((z16 - 1, u15, a_refused))))))))))) fu g1 0 ))

/-! RX7 clearSigns()I -/
def fX7_clearSigns_9 (a_book : Nat → Int32) (z1 : Int32) (kx : Int32 → Option (Int32)) : Nat → Int32 → Option (Int32)
  | 0, _ => none
  | n + 1, x2_9 => (if ((24 * z1) * z1) ≤ x2_9 then (kx x2_9) else (dvI x2_9 (24 * z1)).bind (fun z3 => (dvI x2_9 24).bind (fun z4 => (rmI z4 z1).bind (fun z5 => (dvI x2_9 6).bind (fun z6 => (rmI z6 4).bind (fun z7 => (rmI x2_9 6).bind (fun z8 => (rdI 104 a_book (98 + z3)).bind (fun z9 => (rdI 104 a_book (98 + z5)).bind (fun z10 => (if z1 ≤ z8 then (fX7_clearSigns_9 a_book z1 kx n (x2_9 + 1)) else (if z8 = z3 then (fX7_clearSigns_9 a_book z1 kx n (x2_9 + 1)) else (if z8 = z5 then (fX7_clearSigns_9 a_book z1 kx n (x2_9 + 1)) else (rdI 104 a_book (98 + z8)).bind (fun z14 => (if z14 = ((z9 ||| (z10 <<< (z7 &&& 31))) &&& 255) then some ((((1000 * z3) + (100 * z5)) + (10 * z7)) + z8) else (fX7_clearSigns_9 a_book z1 kx n (x2_9 + 1))))))))))))))))
def fX7_clearSigns (a_book : Nat → Int32) : Option (Int32) := (rdI 104 a_book 3).bind (fun z1 => (fX7_clearSigns_9 a_book z1 (fun x2_9_16 => some ((-1))) fu 0 ))

/-! RX7 bells(III)I -/
def fX7_bells_6 (p0 : Int32) (p1 : Int32) (p2 : Int32) (a_book : Nat → Int32) (kx : Int32 → Int32 → Option (Int32)) : Nat → Int32 → Int32 → Option (Int32)
  | 0, _, _ => none
  | n + 1, x4_6, x5_6 => (rdI 104 a_book 0).bind (fun z1 => (if z1 ≤ x5_6 then (kx x4_6 x5_6) else (fX7_hall a_book x5_6 p0).bind (fun g3 => (if (p1 &&& (g3 ^^^ ((-1)))) = 0 then (if (p2 &&& g3) = 0 then (fX7_bells_6 p0 p1 p2 a_book kx n (x4_6 ||| (1 <<< (x5_6 &&& 31))) (x5_6 + 1)) else (fX7_bells_6 p0 p1 p2 a_book kx n (x4_6 ||| 0) (x5_6 + 1))) else (fX7_bells_6 p0 p1 p2 a_book kx n (x4_6 ||| 0) (x5_6 + 1))))))
def fX7_bells (a_book : Nat → Int32) (p0 : Int32) (p1 : Int32) (p2 : Int32) : Option (Int32) := (fX7_bells_6 p0 p1 p2 a_book (fun x4_6_6 x5_6_7 => some x4_6_6) fu 0 0 )

/-! RX7 isHeard(III)Z -/
def fX7_isHeard (a_book : Nat → Int32) (p0 : Int32) (p1 : Int32) (p2 : Int32) : Option (Int32) := (fX7_in p0 0 3).bind (fun g1 => (if g1 = 0 then some 0 else (fX7_isSet a_book p1).bind (fun g3 => (if g3 = 0 then some 0 else (fX7_isSet a_book p2).bind (fun g5 => (if g5 = 0 then some 0 else (if (p1 &&& p2) = 0 then some 1 else some 0)))))))

/-! RX7 came(III)I -/
def fX7_came (a_book : Nat → Int32) (a_refused : Nat → Int32) (p0 : Int32) (p1 : Int32) (p2 : Int32) : Option (Int32 × (Nat → Int32)) := (fX7_isHeard a_book p0 p1 p2).bind (fun g1 => (if g1 = 0 then (fX7_bad a_refused).bind (fun g3 => some ((g3.1, g3.2))) else (fX7_bells a_book p0 p1 p2).bind (fun g4 => some ((g4, a_refused)))))

/-! RX7 ask(III)I -/
def fX7_ask_24 (p0 : Int32) (p1 : Int32) (p2 : Int32) (a_book : Nat → Int32) (kx : Int32 → Int32 → Int32 → Option (Int32 × (Nat → Int32))) : Nat → Int32 → Int32 → Int32 → Option (Int32 × (Nat → Int32))
  | 0, _, _, _ => none
  | n + 1, x4_24, x5_24, x6_24 => (rdI 104 a_book 0).bind (fun z3 => (if z3 ≤ x6_24 then (kx x4_24 x5_24 x6_24) else (fX7_bells a_book p0 (p1 ||| (1 <<< (x6_24 &&& 31))) p2).bind (fun g5 => (fX7_ones g5).bind (fun g6 => (fX7_bells a_book p0 p1 (p2 ||| (1 <<< (x6_24 &&& 31)))).bind (fun g7 => (fX7_ones g7).bind (fun g8 => (if g8 ≤ g6 then some g8 else some g6 : Option (Int32)).bind (fun f10 => (if (((p1 ||| p2) >>> (x6_24 &&& 31)) &&& 1) = 0 then (if f10 ≤ x4_24 then some 0 else some 1) else some 0 : Option (Int32)).bind (fun f12 => (if f12 = 0 then some x5_24 else some x6_24 : Option (Int32)).bind (fun f15 => (if f12 = 0 then (fX7_ask_24 p0 p1 p2 a_book kx n x4_24 f15 (x6_24 + 1)) else (fX7_ask_24 p0 p1 p2 a_book kx n f10 f15 (x6_24 + 1))))))))))))
def fX7_ask (a_book : Nat → Int32) (a_refused : Nat → Int32) (p0 : Int32) (p1 : Int32) (p2 : Int32) : Option (Int32 × (Nat → Int32)) := (fX7_isHeard a_book p0 p1 p2).bind (fun g1 => (if g1 = 0 then (fX7_bad a_refused).bind (fun g20 => some ((g20.1, g20.2))) else (fX7_ask_24 p0 p1 p2 a_book (fun x4_24_17 x5_24_18 x6_24_19 => some ((x5_24_18, a_refused))) fu 0 ((-1)) 0 )))

/-! RX7 image(I)I -/
def fX7_image_16 (p0 : Int32) (a_book : Nat → Int32) (kx : Int32 → (Nat → Int32) → Option (Int32 × (Nat → Int32) × (Nat → Int32) × (Nat → Int32))) : Nat → Int32 → (Nat → Int32) → Option (Int32 × (Nat → Int32) × (Nat → Int32) × (Nat → Int32))
  | 0, _, _ => none
  | n + 1, x2_16, a_images_16 => (if 104 ≤ x2_16 then (kx x2_16 a_images_16) else (rdI 104 a_book x2_16).bind (fun z4 => (wrI 208 a_images_16 ((104 * p0) + x2_16) z4).bind (fun u5 => (fX7_image_16 p0 a_book kx n (x2_16 + 1) u5))))
def fX7_image (a_book : Nat → Int32) (a_images : Nat → Int32) (a_kept : Nat → Int32) (a_refused : Nat → Int32) (p0 : Int32) : Option (Int32 × (Nat → Int32) × (Nat → Int32) × (Nat → Int32)) := (fX7_in p0 0 1).bind (fun g1 => (if g1 = 0 then (fX7_bad a_refused).bind (fun g9 => some ((g9.1, a_images, a_kept, g9.2))) else (fX7_image_16 p0 a_book (fun x2_16_6 a_images_16_7 => (wrI 2 a_kept p0 (vp_nar .boolean 1)).bind (fun u8 => some ((1, a_images_16_7, u8, a_refused)))) fu 0 a_images)))

/-! RX7 from(I)I -/
def fX7_from_33 (p0 : Int32) (a_images : Nat → Int32) (kx : Int32 → (Nat → Int32) → Option (Int32 × (Nat → Int32) × (Nat → Int32))) : Nat → Int32 → (Nat → Int32) → Option (Int32 × (Nat → Int32) × (Nat → Int32))
  | 0, _, _ => none
  | n + 1, x2_33, a_book_33 => (if 104 ≤ x2_33 then (kx x2_33 a_book_33) else (rdI 208 a_images ((104 * p0) + x2_33)).bind (fun z6 => (wrI 104 a_book_33 x2_33 z6).bind (fun u7 => (fX7_from_33 p0 a_images kx n (x2_33 + 1) u7))))
def fX7_from (a_book : Nat → Int32) (a_images : Nat → Int32) (a_kept : Nat → Int32) (a_refused : Nat → Int32) (p0 : Int32) : Option (Int32 × (Nat → Int32) × (Nat → Int32)) := (fX7_in p0 0 1).bind (fun g1 => (if g1 = 0 then (fX7_bad a_refused).bind (fun g11 => some ((g11.1, a_book, g11.2))) else (rdI 2 a_kept p0).bind (fun z3 => (if z3 = 0 then (fX7_refuses a_refused 1 ((-3))).bind (fun g10 => some ((g10.1, a_book, g10.2))) else (fX7_from_33 p0 a_images (fun x2_33_8 a_book_33_9 => some ((1, a_book_33_9, a_refused))) fu 0 a_book)))))

/-! RX7 status(I)I -/
def fX7_status (a_refused : Nat → Int32) (p0 : Int32) : Option (Int32 × (Nat → Int32)) := (fX7_in p0 0 2).bind (fun g1 => (if g1 = 0 then (fX7_refuses a_refused 0 ((-1))).bind (fun g3 => some ((g3.1, g3.2))) else (rdI 3 a_refused p0).bind (fun z4 => some ((z4, a_refused)))))

/-! RX7 count(I)I -/
def fX7_count (a_book : Nat → Int32) (a_length : Int32) (a_refused : Nat → Int32) (p0 : Int32) : Option (Int32 × (Nat → Int32)) := (fX7_in p0 0 3).bind (fun g1 => (if g1 = 0 then (if p0 = 4 then some ((a_length, a_refused)) else (fX7_bad a_refused).bind (fun g4 => some ((g4.1, g4.2)))) else (rdI 104 a_book p0).bind (fun z5 => some ((z5, a_refused)))))

/-! RX7 digest()J -/
def fX7_digest_6 (a_book : Nat → Int32) (kx : Int64 → Int32 → Option (Int64)) : Nat → Int64 → Int32 → Option (Int64)
  | 0, _, _ => none
  | n + 1, x1_6, x3_6 => (if 4 ≤ x3_6 then (kx x1_6 x3_6) else (rdI 104 a_book x3_6).bind (fun z2 => (fX7_digest_6 a_book kx n ((31 * x1_6) + z2.toInt64) (x3_6 + 1))))
def fX7_digest_104 (a_book : Nat → Int32) (x3_45 : Int32) (kx : Int64 → Int32 → Option (Int64)) : Nat → Int64 → Int32 → Option (Int64)
  | 0, _, _ => none
  | n + 1, x1_104, x4_104 => (if 4 ≤ x4_104 then (kx x1_104 x4_104) else (rdI 104 a_book ((22 + (4 * x3_45)) + x4_104)).bind (fun z11 => (fX7_digest_104 a_book x3_45 kx n ((31 * x1_104) + z11.toInt64) (x4_104 + 1))))
def fX7_digest_45 (a_book : Nat → Int32) (kx : Int64 → Int32 → Option (Int64)) : Nat → Int64 → Int32 → Option (Int64)
  | 0, _, _ => none
  | n + 1, x1_45, x3_45 => (rdI 104 a_book 0).bind (fun z5 => (if z5 ≤ x3_45 then (kx x1_45 x3_45) else (rdI 104 a_book (4 + x3_45)).bind (fun z7 => (rdI 104 a_book (10 + x3_45)).bind (fun z8 => (rdI 104 a_book (16 + x3_45)).bind (fun z9 => (fX7_digest_104 a_book x3_45 (fun x1_104_12 x4_104_13 => (fX7_digest_45 a_book kx n x1_104_12 (x3_45 + 1))) fu ((31 * ((31 * ((31 * x1_45) + z7.toInt64)) + z8.toInt64)) + z9.toInt64) 0 ))))))
def fX7_digest_146 (a_book : Nat → Int32) (kx : Int64 → Int32 → Option (Int64)) : Nat → Int64 → Int32 → Option (Int64)
  | 0, _, _ => none
  | n + 1, x1_146, x3_146 => (rdI 104 a_book 1).bind (fun z16 => (if z16 ≤ x3_146 then (kx x1_146 x3_146) else (rdI 104 a_book (46 + x3_146)).bind (fun z18 => (rdI 104 a_book (54 + x3_146)).bind (fun z19 => (fX7_digest_146 a_book kx n ((31 * ((31 * x1_146) + z18.toInt64)) + z19.toInt64) (x3_146 + 1))))))
def fX7_digest_196 (a_book : Nat → Int32) (kx : Int64 → Int32 → Option (Int64)) : Nat → Int64 → Int32 → Option (Int64)
  | 0, _, _ => none
  | n + 1, x1_196, x3_196 => (rdI 104 a_book 2).bind (fun z22 => (if z22 ≤ x3_196 then (kx x1_196 x3_196) else (rdI 104 a_book (62 + x3_196)).bind (fun z24 => (rdI 104 a_book (74 + x3_196)).bind (fun z25 => (rdI 104 a_book (86 + x3_196)).bind (fun z26 => (fX7_digest_196 a_book kx n ((31 * ((31 * ((31 * x1_196) + z24.toInt64)) + z25.toInt64)) + z26.toInt64) (x3_196 + 1)))))))
def fX7_digest_261 (a_book : Nat → Int32) (kx : Int64 → Int32 → Option (Int64)) : Nat → Int64 → Int32 → Option (Int64)
  | 0, _, _ => none
  | n + 1, x1_261, x3_261 => (rdI 104 a_book 3).bind (fun z29 => (if z29 ≤ x3_261 then (kx x1_261 x3_261) else (rdI 104 a_book (98 + x3_261)).bind (fun z31 => (fX7_digest_261 a_book kx n ((31 * x1_261) + z31.toInt64) (x3_261 + 1)))))
def fX7_digest (a_book : Nat → Int32) (a_length : Int32) : Option (Int64) := (fX7_digest_6 a_book (fun x1_6_3 x3_6_4 => (fX7_digest_45 a_book (fun x1_45_14 x3_45_15 => (fX7_digest_146 a_book (fun x1_146_20 x3_146_21 => (fX7_digest_196 a_book (fun x1_196_27 x3_196_28 => (fX7_digest_261 a_book (fun x1_261_32 x3_261_33 => some x1_261_32) fu x1_196_27 0 )) fu x1_146_20 0 )) fu x1_45_14 0 )) fu ((31 * x1_6_3) + a_length.toInt64) 0 )) fu 727 0 )
