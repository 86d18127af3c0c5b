def ld_X3_back_83 (F : Nat) : Nat → (Nat → Nat → Int32) → (Int64) → (Int32) → Option ((Nat → Nat → Int32))
  | 0, _, _, _ => none
  | n + 1, c0, x3, x5 =>
  (if x5 < 0 then some ((rs c0 6 (fun _ => x3.toInt32))) else (if inb x5 6 then lt1 (x3 >>> ((2 : Int32).toInt64 &&& 63)) (fun y4 => (ld_X3_back_83 F n) (rs c0 4 (upd (c0 4) (ix x5) (x3 &&& (3 : Int64)).toInt32)) y4 (x5 + (-1 : Int32))) else none))
def md_X3_back (F : Nat) (c0 : Nat → Nat → Int32) (p1 : Int64) : Option ((Nat → Nat → Int32)) :=
  lt1 (p1 >>> ((3 : Int32).toInt64 &&& 63)) (fun y6 => lt1 (y6 >>> ((8 : Int32).toInt64 &&& 63)) (fun y8 => lt1 (y8 >>> ((1 : Int32).toInt64 &&& 63)) (fun y10 => lt1 (y10 >>> ((2 : Int32).toInt64 &&& 63)) (fun y12 => lt1 (y12 >>> ((2 : Int32).toInt64 &&& 63)) (fun y14 => ld_X3_back_83 F F (rs (rs (rs (rs c0 1 (upd (upd (c0 1) 1 (y10 &&& (3 : Int64)).toInt32) 0 (y12 &&& (3 : Int64)).toInt32)) 7 (fun _ => ((y6 &&& (255 : Int64)).toInt32 - (99 : Int32)))) 8 (fun _ => (y8 &&& (1 : Int64)).toInt32)) 9 (fun _ => ((p1 &&& (7 : Int64)).toInt32 - (1 : Int32)))) y14 (5 : Int32))))))
def md_X3_hasPoint (c0 : Nat → Nat → Int32) (p1 : Int32) : Option (Int32) :=
  lt1 (if p1 < (0 : Int32) then (0 : Int32) else (if (c0 5 0) ≤ p1 then (0 : Int32) else (if (6 : Int32) ≤ p1 then (0 : Int32) else (1 : Int32)))) (fun y1 => (if y1 = 0 ∨ y1 = 1 then some (y1) else none))
def md_J6_bitCount_0f7a4 (p0 : Int32) : Option (Int32) :=
  lt1 (p0 - ((p0.toUInt32 >>> ((1 : Int32).toUInt32 &&& Int32.toUInt32 31)).toInt32 &&& (1431655765 : Int32))) (fun y1 => lt1 ((y1 &&& (858993459 : Int32)) + ((y1.toUInt32 >>> ((2 : Int32).toUInt32 &&& Int32.toUInt32 31)).toInt32 &&& (858993459 : Int32))) (fun y3 => lt1 ((y3 + (y3.toUInt32 >>> ((4 : Int32).toUInt32 &&& Int32.toUInt32 31)).toInt32) &&& (252645135 : Int32)) (fun y5 => lt1 (y5 + (y5.toUInt32 >>> ((8 : Int32).toUInt32 &&& Int32.toUInt32 31)).toInt32) (fun y7 => lt1 (y7 + (y7.toUInt32 >>> ((16 : Int32).toUInt32 &&& Int32.toUInt32 31)).toInt32) (fun y9 => some ((y9 &&& (63 : Int32))))))))
def md_X3_speaker (c0 : Nat → Nat → Int32) : Option (Int32) :=
  bd1 (md_J6_bitCount_0f7a4 (c0 6 0)) (fun r1 => some ((r1 &&& (1 : Int32))))
def md_X3_mayObject (c0 : Nat → Nat → Int32) : Option (Int32) :=
  bd1 (md_X3_hasPoint c0 (c0 9 0)) (fun r1 => (if r1 = 0 then some ((0 : Int32)) else (if inb (c0 9 0) 6 then (if ((c0 4) (ix (c0 9 0))) ≤ 0 then some ((0 : Int32)) else bd1 (md_X3_speaker c0) (fun r8 => (if inb r8 2 then (if ((c0 1) (ix r8)) ≤ 0 then some ((0 : Int32)) else some ((1 : Int32))) else none))) else none)))
def md_X3_bow (c0 : Nat → Nat → Int32) : Option ((Nat → Nat → Int32)) :=
  bd1 (md_X3_mayObject c0) (fun r1 => (if r1 = 0 then some (c0) else bd1 (md_X3_speaker c0) (fun r4 => (if inb r4 2 then (if inb r4 2 then (if inb (c0 9 0) 6 then (if inb (c0 9 0) 6 then some ((rs (rs (rs (rs c0 1 (upd (c0 1) (ix r4) (((c0 1) (ix r4)) - (1 : Int32)))) 4 (upd (c0 4) (ix (c0 9 0)) (((c0 4) (ix (c0 9 0))) - (1 : Int32)))) 8 (fun _ => ((1 : Int32) - (c0 8 0)))) 9 (fun _ => (-1 : Int32)))) else none) else none) else none) else none))))
def ld_X3_keep_8 (F : Nat) (c0 : Nat → Nat → Int32) : Nat → (Int64) → (Int32) → Option (Int64)
  | 0, _, _ => none
  | n + 1, x1, x3 =>
  (if (6 : Int32) ≤ x3 then lt1 ((x1 <<< ((2 : Int32).toInt64 &&& 63)) ||| ((c0 1) 0).toInt64) (fun y2 => lt1 ((y2 <<< ((2 : Int32).toInt64 &&& 63)) ||| ((c0 1) 1).toInt64) (fun y4 => lt1 ((y4 <<< ((1 : Int32).toInt64 &&& 63)) ||| (c0 8 0).toInt64) (fun y6 => lt1 ((y6 <<< ((8 : Int32).toInt64 &&& 63)) ||| ((c0 7 0) + (99 : Int32)).toInt64) (fun y8 => some (((y8 <<< ((3 : Int32).toInt64 &&& 63)) ||| ((c0 9 0) + (1 : Int32)).toInt64)))))) else (if inb x3 6 then lt1 ((x1 <<< ((2 : Int32).toInt64 &&& 63)) ||| ((c0 4) (ix x3)).toInt64) (fun y12 => (ld_X3_keep_8 F c0 n) y12 (x3 + (1 : Int32))) else none))
def md_X3_keep (F : Nat) (c0 : Nat → Nat → Int32) : Option (Int64) :=
  ld_X3_keep_8 F c0 F (c0 6 0).toInt64 (0 : Int32)
def md_X3_chairOf (c0 : Nat → Nat → Int32) (p1 : Int32) : Option (Int32) :=
  lt1 (if p1 = (c0 8 0) then (0 : Int32) else (1 : Int32)) (fun y1 => some (y1))
def md_X3_meritOfChair (c0 : Nat → Nat → Int32) (p1 : Int32) : Option (Int32) :=
  lt1 (if p1 = 0 then (c0 7 0) else (-(c0 7 0))) (fun y1 => some (y1))
def md_X3_turn (c0 : Nat → Nat → Int32) : Option (Int32) :=
  bd1 (md_J6_bitCount_0f7a4 (c0 6 0)) (fun r1 => some (r1))
def md_X5_fierce (p0 : Int32) : Option (Int32) :=
  some ((p0 + (2 : Int32)))
def md_X5_mild (p0 : Int32) : Option (Int32) :=
  lt1 (if p0 ≤ 0 then (0 : Int32) else (p0 - (1 : Int32))) (fun y1 => some (y1))
def md_X5_counted (p0 : Int32) (p1 : Int32) (p2 : Int32) : Option (Int32) :=
  (if p0 = (1 : Int32) then bd1 (md_X5_fierce p1) (fun r2 => some (r2)) else (if p0 = (2 : Int32) then bd1 (md_X5_mild p1) (fun r6 => some (r6)) else (if p0 = (3 : Int32) then (if p2 = 0 then bd1 (md_X5_fierce p1) (fun r14 => some (r14)) else bd1 (md_X5_fierce p1) (fun r11 => some ((-r11)))) else (if p0 = (4 : Int32) then (if (p1 - p1 / (2 : Int32) * (2 : Int32)) = 0 then bd1 (md_X5_mild p1) (fun r22 => some ((r22 + (3 : Int32)))) else bd1 (md_X5_mild p1) (fun r19 => some (r19))) else (if p0 = (5 : Int32) then bd1 (md_X5_fierce p1) (fun r26 => some ((r26 / (2 : Int32)))) else some (p1))))))
def md_X5_evidence (p0 : Int32) (p1 : Int32) : Option (Int32) :=
  lt1 (if 0 ≤ p1 then p0 else ((2 : Int32) * p0)) (fun y1 => some (y1))
def md_X5_hearsay (p0 : Int32) : Option (Int32) :=
  some (((p0 + (1 : Int32)) / (2 : Int32)))
def md_X5_moved (p0 : Int32) (p1 : Int32) (p2 : Int32) (p3 : Int32) : Option (Int32) :=
  (if p0 = (1 : Int32) then bd1 (md_X5_hearsay p1) (fun r2 => some (r2)) else (if p0 = (2 : Int32) then bd1 (md_X5_evidence p1 p2) (fun r6 => some (r6)) else (if p0 = (3 : Int32) then bd1 (md_X5_hearsay p1) (fun r10 => some ((r10 + p3))) else (if p0 = (4 : Int32) then bd1 (md_X5_evidence p1 p2) (fun r14 => some ((r14 + (2 : Int32)))) else (if p0 = (5 : Int32) then lt1 (if (p3 - p3 / (2 : Int32) * (2 : Int32)) = 0 then p1 else (0 : Int32)) (fun y18 => some (y18)) else some (p1))))))
def md_X3_counting (c0 : Nat → Nat → Int32) (p1 : Int32) : Option (Int32) :=
  bd1 (md_X3_hasPoint c0 p1) (fun r1 => (if r1 = 0 then some ((0 : Int32)) else bd1 (md_X3_speaker c0) (fun r4 => bd1 (md_X3_chairOf c0 r4) (fun r6 => (if inb p1 6 then (if inb p1 6 then bd1 (md_X3_meritOfChair c0 r6) (fun r10 => bd1 (md_X3_turn c0) (fun r12 => bd1 (md_X5_moved ((c0 2) (ix p1)) ((c0 3) (ix p1)) r10 r12) (fun r14 => (if inb r4 2 then bd1 (md_X5_counted ((c0 0) (ix r4)) r14 r6) (fun r17 => some (r17)) else none)))) else none) else none)))))
def md_X3_speak (c0 : Nat → Nat → Int32) (p1 : Int32) : Option ((Nat → Nat → Int32)) :=
  bd1 (md_X3_hasPoint c0 p1) (fun r1 => (if r1 = 0 then some (c0) else bd1 (md_X3_counting c0 p1) (fun r4 => bd1 (md_X3_speaker c0) (fun r6 => bd1 (md_X3_chairOf c0 r6) (fun r8 => lt1 (if r8 = 0 then ((c0 7 0) + r4) else ((c0 7 0) - r4)) (fun y10 => lt1 (if y10 < (99 : Int32) then y10 else (99 : Int32)) (fun y14 => lt1 (if (-99 : Int32) < y14 then y14 else (-99 : Int32)) (fun y16 => some ((rs (rs (rs c0 6 (fun _ => ((c0 6 0) ||| ((1 : Int32) <<< (p1 &&& 31))))) 7 (fun _ => y16)) 9 (fun _ => p1)))))))))))
def md_X3_unsaid (c0 : Nat → Nat → Int32) : Option (Int32) :=
  some (((((1 : Int32) <<< ((c0 5 0) &&& 31)) - (1 : Int32)) &&& ((c0 6 0) ^^^ (-1 : Int32))))
def md_X3_worthForCounselZero (c0 : Nat → Nat → Int32) : Option (Int32) :=
  bd1 (md_X3_chairOf c0 (0 : Int32)) (fun r1 => bd1 (md_X3_meritOfChair c0 r1) (fun r3 => some (r3)))
def md_X8_has (p0 : Int32) (p1 : Int32) : Option (Int32) :=
  lt1 (if ((p0 >>> (p1 &&& 31)) &&& (1 : Int32)) = 0 then (0 : Int32) else (1 : Int32)) (fun y1 => (if y1 = 0 ∨ y1 = 1 then some (y1) else none))
def jd_X0_worth_98 (d : Nat) (ku : Nat → (Nat → Nat → Int32) → Int32 → Int32 → Int32 → Option (Int32 × (Nat → Nat → Int32))) (F : Nat) (c0 : Nat → Nat → Int32) (x4 : Int32) (x5 : Int32) (x6 : Int64) (s0 : Int32) : Option (Int32 × (Nat → Nat → Int32)) :=
  bd1 (md_X3_back F c0 x6) (fun cv1 => (if x5 = 0 then some ((if x4 < s0 then x4 else s0), cv1) else some ((if s0 < x4 then x4 else s0), cv1)))
def jd_X0_worth_56 (d : Nat) (ku : Nat → (Nat → Nat → Int32) → Int32 → Int32 → Int32 → Option (Int32 × (Nat → Nat → Int32))) (F : Nat) (c0 : Nat → Nat → Int32) (x1 : Int32) (x2 : Int32) (x3 : Int32) (x4 : Int32) (x5 : Int32) : Option (Int32 × (Nat → Nat → Int32)) :=
  bd1 (md_X3_keep F c0) (fun r10 => bd1 (md_X3_bow c0) (fun cv12 => (if x5 = 0 then bd2 (ku F cv12 x1 (if x4 < x2 then x4 else x2) x3) (fun r15 cv16 => jd_X0_worth_98 d ku F cv16 x4 x5 r10 r15) else bd2 (ku F cv12 (if x1 < x4 then x4 else x1) x2 x3) (fun r18 cv19 => jd_X0_worth_98 d ku F cv19 x4 x5 r10 r18))))
def md_X0_worth (d : Nat) (ku : Nat → (Nat → Nat → Int32) → Int32 → Int32 → Int32 → Option (Int32 × (Nat → Nat → Int32))) (F : Nat) (c0 : Nat → Nat → Int32) (p1 : Int32) (p2 : Int32) (p3 : Int32) : Option (Int32 × (Nat → Nat → Int32)) :=
  bd2 (ku F c0 p1 p2 p3) (fun r21 cv22 => bd1 (md_X3_mayObject cv22) (fun r24 => (if r24 = 0 then some (r21, cv22) else bd1 (md_X3_speaker cv22) (fun r27 => lt1 (if r27 = 0 then (1 : Int32) else (0 : Int32)) (fun y29 => (if y29 = 0 then (if p1 < r21 then jd_X0_worth_56 d ku F cv22 p1 p2 p3 r21 y29 else some (r21, cv22)) else (if r21 < p2 then jd_X0_worth_56 d ku F cv22 p1 p2 p3 r21 y29 else some (r21, cv22))))))))
def jd_X0_worthUnbowed_157 (d : Nat) (kw : Nat → (Nat → Nat → Int32) → Int32 → Int32 → Int32 → Option (Int32 × (Nat → Nat → Int32))) (F : Nat) (k67 : (Nat → Nat → Int32) → (Int32) → (Int32) → (Int32) → (Int32) → (Int32) → (Int32) → (Int64) → (Int32) → Option (Int32 × (Nat → Nat → Int32))) (c0 : Nat → Nat → Int32) (x3 : Int32) (x4 : Int32) (x5 : Int32) (x6 : Int32) (x8 : Int32) (x9 : Int64) (x11 : Int32) (s0 : Int32) : Option (Int32 × (Nat → Nat → Int32)) :=
  (if x5 = 0 then lt1 (if x6 < x8 then x6 else x8) (fun y2 => k67 c0 x3 x4 x5 x6 s0 y2 x9 (x11 + (1 : Int32))) else k67 c0 x3 x4 x5 x6 s0 x8 x9 (x11 + (1 : Int32)))
def jd_X0_worthUnbowed_138 (d : Nat) (kw : Nat → (Nat → Nat → Int32) → Int32 → Int32 → Int32 → Option (Int32 × (Nat → Nat → Int32))) (F : Nat) (k67 : (Nat → Nat → Int32) → (Int32) → (Int32) → (Int32) → (Int32) → (Int32) → (Int32) → (Int64) → (Int32) → Option (Int32 × (Nat → Nat → Int32))) (c0 : Nat → Nat → Int32) (x3 : Int32) (x4 : Int32) (x5 : Int32) (x7 : Int32) (x8 : Int32) (x9 : Int64) (x11 : Int32) (s0 : Int32) : Option (Int32 × (Nat → Nat → Int32)) :=
  (if x5 = 0 then jd_X0_worthUnbowed_157 d kw F k67 c0 x3 x4 x5 s0 x8 x9 x11 x7 else jd_X0_worthUnbowed_157 d kw F k67 c0 x3 x4 x5 s0 x8 x9 x11 (if x7 < s0 then s0 else x7))
def ld_X0_worthUnbowed_67 (d : Nat) (kw : Nat → (Nat → Nat → Int32) → Int32 → Int32 → Int32 → Option (Int32 × (Nat → Nat → Int32))) (F : Nat) : Nat → (Nat → Nat → Int32) → (Int32) → (Int32) → (Int32) → (Int32) → (Int32) → (Int32) → (Int64) → (Int32) → Option (Int32 × (Nat → Nat → Int32))
  | 0, _, _, _, _, _, _, _, _, _ => none
  | n + 1, c0, x3, x4, x5, x6, x7, x8, x9, x11 =>
  (if (6 : Int32) ≤ x11 then some (x6, c0) else (if x8 ≤ x7 then some (x6, c0) else bd1 (md_X8_has x4 x11) (fun r13 => (if r13 = 0 then (ld_X0_worthUnbowed_67 d kw F n) c0 x3 x4 x5 x6 x7 x8 x9 (x11 + (1 : Int32)) else bd1 (md_X3_speak c0 x11) (fun cv16 => bd2 (kw F cv16 x7 x8 (x3 + (1 : Int32))) (fun r18 cv19 => bd1 (md_X3_back F cv19 x9) (fun cv21 => (if x5 = 0 then jd_X0_worthUnbowed_138 d kw F (ld_X0_worthUnbowed_67 d kw F n) cv21 x3 x4 x5 x7 x8 x9 x11 (if r18 < x6 then r18 else x6) else jd_X0_worthUnbowed_138 d kw F (ld_X0_worthUnbowed_67 d kw F n) cv21 x3 x4 x5 x7 x8 x9 x11 (if x6 < r18 then r18 else x6)))))))))
def jd_X0_worthUnbowed_17 (d : Nat) (kw : Nat → (Nat → Nat → Int32) → Int32 → Int32 → Int32 → Option (Int32 × (Nat → Nat → Int32))) (F : Nat) (c0 : Nat → Nat → Int32) : Option (Int32 × (Nat → Nat → Int32)) :=
  bd1 (md_X3_worthForCounselZero c0) (fun r24 => some (r24, c0))
def md_X0_worthUnbowed (d : Nat) (kw : Nat → (Nat → Nat → Int32) → Int32 → Int32 → Int32 → Option (Int32 × (Nat → Nat → Int32))) (F : Nat) (c0 : Nat → Nat → Int32) (p1 : Int32) (p2 : Int32) (p3 : Int32) : Option (Int32 × (Nat → Nat → Int32)) :=
  bd1 (md_X3_unsaid c0) (fun r29 => (if r29 = 0 then jd_X0_worthUnbowed_17 d kw F c0 else (if p3 < (6 : Int32) then bd1 (md_X3_speaker c0) (fun r33 => lt1 (if r33 = 0 then (1 : Int32) else (0 : Int32)) (fun y35 => lt1 (if y35 = 0 then (1000 : Int32) else (-1000 : Int32)) (fun y39 => bd1 (md_X3_keep F c0) (fun r43 => ld_X0_worthUnbowed_67 d kw F F c0 p3 r29 y35 y39 p1 p2 r43 (0 : Int32))))) else jd_X0_worthUnbowed_17 d kw F c0)))
def wuD : Nat → Nat → (Nat → Nat → Int32) → Int32 → Int32 → Int32 → Option (Int32 × (Nat → Nat → Int32))
  | 0 => fun _ _ _ _ _ => none
  | d + 1 => fun F c0 p1 p2 p3 => md_X0_worthUnbowed d (fun F c0 p1 p2 p3 => md_X0_worth d (wuD d) F c0 p1 p2 p3) F c0 p1 p2 p3
def md_X0_whetherToBow (F : Nat) (c0 : Nat → Nat → Int32) : Option (Int32 × (Nat → Nat → Int32)) :=
  bd1 (md_X3_mayObject c0) (fun r1 => (if r1 = 0 then some ((-1 : Int32), c0) else bd1 (md_X3_speaker c0) (fun r4 => lt1 (if r4 = 0 then (1 : Int32) else (0 : Int32)) (fun y6 => bd2 (wuD 8 F c0 (-1000 : Int32) (1000 : Int32) (0 : Int32)) (fun r10 cv11 => bd1 (md_X3_keep F cv11) (fun r13 => bd1 (md_X3_bow cv11) (fun cv15 => bd2 (wuD 8 F cv15 (-1000 : Int32) (1000 : Int32) (0 : Int32)) (fun r17 cv18 => bd1 (md_X3_back F cv18 r13) (fun cv20 => lt1 (if y6 = 0 then (if r10 ≤ r17 then (0 : Int32) else (1 : Int32)) else (if r17 ≤ r10 then (0 : Int32) else (1 : Int32))) (fun y22 => some (y22, cv20)))))))))))
def jd_X0_whatToSay_118 (F : Nat) (k44 : (Nat → Nat → Int32) → (Int32) → (Int32) → (Int32) → (Int32) → (Int64) → (Int32) → Option (Int32 × (Nat → Nat → Int32))) (c0 : Nat → Nat → Int32) (x1 : Int32) (x2 : Int32) (x5 : Int64) (x7 : Int32) (x8 : Int32) : Option (Int32 × (Nat → Nat → Int32)) :=
  k44 c0 x1 x2 x8 x7 x5 (x7 + (1 : Int32))
def jd_X0_whatToSay_91 (F : Nat) (k44 : (Nat → Nat → Int32) → (Int32) → (Int32) → (Int32) → (Int32) → (Int64) → (Int32) → Option (Int32 × (Nat → Nat → Int32))) (c0 : Nat → Nat → Int32) (x1 : Int32) (x2 : Int32) (x3 : Int32) (x4 : Int32) (x5 : Int64) (x7 : Int32) (s0 : Int32) : Option (Int32 × (Nat → Nat → Int32)) :=
  bd1 (md_X3_back F c0 x5) (fun cv1 => (if x1 = 0 then (if x3 ≤ s0 then k44 cv1 x1 x2 x3 x4 x5 (x7 + (1 : Int32)) else jd_X0_whatToSay_118 F k44 cv1 x1 x2 x5 x7 s0) else (if s0 ≤ x3 then k44 cv1 x1 x2 x3 x4 x5 (x7 + (1 : Int32)) else jd_X0_whatToSay_118 F k44 cv1 x1 x2 x5 x7 s0)))
def ld_X0_whatToSay_44 (F : Nat) : Nat → (Nat → Nat → Int32) → (Int32) → (Int32) → (Int32) → (Int32) → (Int64) → (Int32) → Option (Int32 × (Nat → Nat → Int32))
  | 0, _, _, _, _, _, _, _ => none
  | n + 1, c0, x1, x2, x3, x4, x5, x7 =>
  (if (6 : Int32) ≤ x7 then some (x4, c0) else bd1 (md_X8_has x2 x7) (fun r10 => (if r10 = 0 then (ld_X0_whatToSay_44 F n) c0 x1 x2 x3 x4 x5 (x7 + (1 : Int32)) else bd1 (md_X3_speak c0 x7) (fun cv13 => (if x1 = 0 then bd2 (md_X0_worth 8 (wuD 8) F cv13 (-1000 : Int32) x3 (1 : Int32)) (fun r16 cv17 => jd_X0_whatToSay_91 F (ld_X0_whatToSay_44 F n) cv17 x1 x2 x3 x4 x5 x7 r16) else bd2 (md_X0_worth 8 (wuD 8) F cv13 x3 (1000 : Int32) (1 : Int32)) (fun r19 cv20 => jd_X0_whatToSay_91 F (ld_X0_whatToSay_44 F n) cv20 x1 x2 x3 x4 x5 x7 r19))))))
def md_X0_whatToSay (F : Nat) (c0 : Nat → Nat → Int32) : Option (Int32 × (Nat → Nat → Int32)) :=
  bd1 (md_X3_speaker c0) (fun r22 => lt1 (if r22 = 0 then (1 : Int32) else (0 : Int32)) (fun y24 => bd1 (md_X3_unsaid c0) (fun r28 => lt1 (if y24 = 0 then (1000 : Int32) else (-1000 : Int32)) (fun y30 => bd1 (md_X3_keep F c0) (fun r34 => ld_X0_whatToSay_44 F F c0 y24 r28 y30 (-1 : Int32) r34 (0 : Int32))))))
def md_X3_begin (c0 : Nat → Nat → Int32) (p1 : Int32) (p2 : Int32) : Option ((Nat → Nat → Int32)) :=
  some ((rs (rs (rs (rs (rs (rs (rs c0 0 (upd (upd (c0 0) 0 p1) 1 p2)) 1 (upd (upd (c0 1) 0 (1 : Int32)) 1 (1 : Int32))) 5 (fun _ => (0 : Int32))) 6 (fun _ => (0 : Int32))) 7 (fun _ => (0 : Int32))) 8 (fun _ => (0 : Int32))) 9 (fun _ => (-1 : Int32))))
def md_X1_begin (c0 : Nat → Nat → Int32) (w0 : Nat → Nat → Int64) (c1 : Nat → Nat → Int32) (p1 : Int32) (p2 : Int32) : Option ((Nat → Nat → Int32) × (Nat → Nat → Int32)) :=
  bd1 (md_X3_begin c1 p1 p2) (fun cv1 => some ((rs (rs (rs (rs c0 2 (fun _ => (0 : Int32))) 4 (fun _ => (0 : Int32))) 6 (fun _ => (0 : Int32))) 8 (fun _ => (0 : Int32))), cv1))
def ld_X3_copy_39 (F : Nat) (c0 : Nat → Nat → Int32) : Nat → (Nat → Nat → Int32) → (Int32) → Option ((Nat → Nat → Int32))
  | 0, _, _ => none
  | n + 1, c1, x2 =>
  (if (6 : Int32) ≤ x2 then some ((rs (rs (rs (rs (rs c1 5 (fun _ => (c0 5 0))) 6 (fun _ => (c0 6 0))) 7 (fun _ => (c0 7 0))) 8 (fun _ => (c0 8 0))) 9 (fun _ => (c0 9 0)))) else (if inb x2 6 then (if inb x2 6 then (if inb x2 6 then (if inb x2 6 then (if inb x2 6 then (if inb x2 6 then (ld_X3_copy_39 F c0 n) (rs (rs (rs c1 2 (upd (c1 2) (ix x2) ((c0 2) (ix x2)))) 3 (upd (c1 3) (ix x2) ((c0 3) (ix x2)))) 4 (upd (c1 4) (ix x2) ((c0 4) (ix x2)))) (x2 + (1 : Int32)) else none) else none) else none) else none) else none) else none))
def ld_X3_copy_2 (F : Nat) (c0 : Nat → Nat → Int32) : Nat → (Nat → Nat → Int32) → (Int32) → Option ((Nat → Nat → Int32))
  | 0, _, _ => none
  | n + 1, c1, x2 =>
  (if (2 : Int32) ≤ x2 then ld_X3_copy_39 F c0 F c1 (0 : Int32) else (if inb x2 2 then (if inb x2 2 then (if inb x2 2 then (if inb x2 2 then (ld_X3_copy_2 F c0 n) (rs (rs c1 0 (upd (c1 0) (ix x2) ((c0 0) (ix x2)))) 1 (upd (c1 1) (ix x2) ((c0 1) (ix x2)))) (x2 + (1 : Int32)) else none) else none) else none) else none))
def md_X3_copy (F : Nat) (c0 : Nat → Nat → Int32) (c1 : Nat → Nat → Int32) : Option ((Nat → Nat → Int32)) :=
  ld_X3_copy_2 F c0 F c1 (0 : Int32)
def md_X1_copyAll (F : Nat) (c0 : Nat → Nat → Int32) (w0 : Nat → Nat → Int64) (c1 : Nat → Nat → Int32) (c2 : Nat → Nat → Int32) (w2 : Nat → Nat → Int64) (c3 : Nat → Nat → Int32) : Option ((Nat → Nat → Int32) × (Nat → Nat → Int64) × (Nat → Nat → Int32)) :=
  bd1 (md_X3_copy F c1 c3) (fun cv1 => some ((rs (rs (rs (rs (rs (rs (rs c2 1 (va_cpy (c0 1) (c2 1) 0 0 4)) 2 (fun _ => (c0 2 0))) 3 (va_cpy (c0 3) (c2 3) 0 0 30)) 4 (fun _ => (c0 4 0))) 5 (va_cpy (c0 5) (c2 5) 0 0 24)) 6 (fun _ => (c0 6 0))) 8 (fun _ => (c0 8 0))), (rs w2 7 (va_cpy (w0 7) (w2 7) 0 0 8)), cv1))
def md_X1_dropPast (c0 : Nat → Nat → Int32) (w0 : Nat → Nat → Int64) : Option ((Nat → Nat → Int32)) :=
  some ((rs c0 8 (fun _ => (0 : Int32))))
def jd_X1_remember_30 (F : Nat) (c1 : Nat → Nat → Int32) (c0 : Nat → Nat → Int32) (w0 : Nat → Nat → Int64) : Option ((Nat → Nat → Int32) × (Nat → Nat → Int64)) :=
  bd1 (md_X3_keep F c1) (fun r1 => (if inb (c0 8 0) 8 then some ((rs c0 8 (fun _ => ((c0 8 0) + (1 : Int32)))), (rs w0 7 (vp_updL (w0 7) (ix (c0 8 0)) r1))) else none))
def md_X1_remember (F : Nat) (c0 : Nat → Nat → Int32) (w0 : Nat → Nat → Int64) (c1 : Nat → Nat → Int32) : Option ((Nat → Nat → Int32) × (Nat → Nat → Int64)) :=
  (if (c0 8 0) < (8 : Int32) then jd_X1_remember_30 F c1 c0 w0 else jd_X1_remember_30 F c1 (rs c0 8 (fun _ => (7 : Int32))) (rs w0 7 (va_cpy (w0 7) (w0 7) 1 0 7)))
def md_X1_goBack (F : Nat) (c0 : Nat → Nat → Int32) (w0 : Nat → Nat → Int64) (c1 : Nat → Nat → Int32) : Option ((Nat → Nat → Int32) × (Nat → Nat → Int32)) :=
  (if (c0 8 0) ≤ 0 then some (c0, c1) else (if inb ((c0 8 0) - (1 : Int32)) 8 then bd1 (md_X3_back F c1 ((w0 7) (ix ((c0 8 0) - (1 : Int32))))) (fun cv6 => some ((rs c0 8 (fun _ => ((c0 8 0) - (1 : Int32)))), cv6)) else none))
def md_X1_addNote (c0 : Nat → Nat → Int32) (w0 : Nat → Nat → Int64) (p1 : Int32) (p2 : Int32) (p3 : Int32) (p4 : Int32) (p5 : Int32) : Option ((Nat → Nat → Int32)) :=
  (if (c0 4 0) < (6 : Int32) then (if inb ((c0 4 0) * (5 : Int32)) 30 then (if inb (((c0 4 0) * (5 : Int32)) + (1 : Int32)) 30 then (if inb (((c0 4 0) * (5 : Int32)) + (2 : Int32)) 30 then (if inb (((c0 4 0) * (5 : Int32)) + (3 : Int32)) 30 then (if inb (((c0 4 0) * (5 : Int32)) + (4 : Int32)) 30 then some ((rs (rs c0 3 (upd (upd (upd (upd (upd (c0 3) (ix ((c0 4 0) * (5 : Int32))) p1) (ix (((c0 4 0) * (5 : Int32)) + (1 : Int32))) p2) (ix (((c0 4 0) * (5 : Int32)) + (2 : Int32))) p3) (ix (((c0 4 0) * (5 : Int32)) + (3 : Int32))) p4) (ix (((c0 4 0) * (5 : Int32)) + (4 : Int32))) p5)) 4 (fun _ => ((c0 4 0) + (1 : Int32))))) else none) else none) else none) else none) else none) else some (c0))
def md_X1_addMark (c0 : Nat → Nat → Int32) (w0 : Nat → Nat → Int64) (p1 : Int32) (p2 : Int32) (p3 : Int32) (p4 : Int32) : Option ((Nat → Nat → Int32)) :=
  (if (c0 6 0) < (6 : Int32) then (if inb ((c0 6 0) * (4 : Int32)) 24 then (if inb (((c0 6 0) * (4 : Int32)) + (1 : Int32)) 24 then (if inb (((c0 6 0) * (4 : Int32)) + (2 : Int32)) 24 then (if inb (((c0 6 0) * (4 : Int32)) + (3 : Int32)) 24 then some ((rs (rs c0 5 (upd (upd (upd (upd (c0 5) (ix ((c0 6 0) * (4 : Int32))) p1) (ix (((c0 6 0) * (4 : Int32)) + (1 : Int32))) p2) (ix (((c0 6 0) * (4 : Int32)) + (2 : Int32))) p3) (ix (((c0 6 0) * (4 : Int32)) + (3 : Int32))) p4)) 6 (fun _ => ((c0 6 0) + (1 : Int32))))) else none) else none) else none) else none) else some (c0))
def ld_X1_allEndsAre_2 (F : Nat) (c0 : Nat → Nat → Int32) (w0 : Nat → Nat → Int64) : Nat → (Int32) → (Int32) → Option (Int32)
  | 0, _, _ => none
  | n + 1, x1, x2 =>
  (if (c0 2 0) ≤ x2 then some ((1 : Int32)) else (if (4 : Int32) ≤ x2 then some ((1 : Int32)) else (if inb x2 4 then (if ((c0 1) (ix x2)) = x1 then (ld_X1_allEndsAre_2 F c0 w0 n) x1 (x2 + (1 : Int32)) else some ((0 : Int32))) else none)))
def md_X1_allEndsAre (F : Nat) (c0 : Nat → Nat → Int32) (w0 : Nat → Nat → Int64) (p1 : Int32) : Option (Int32) :=
  ld_X1_allEndsAre_2 F c0 w0 F p1 (0 : Int32)
def ld_X1_notesFit_2 (F : Nat) (c0 : Nat → Nat → Int32) (w0 : Nat → Nat → Int64) : Nat → (Int32) → (Int32) → (Int32) → Option (Int32)
  | 0, _, _, _ => none
  | n + 1, x1, x2, x3 =>
  (if (c0 4 0) ≤ x3 then some ((1 : Int32)) else (if (6 : Int32) ≤ x3 then some ((1 : Int32)) else (if inb (x3 * (5 : Int32)) 30 then (if ((c0 3) (ix (x3 * (5 : Int32)))) = x1 then (if inb ((x3 * (5 : Int32)) + (1 : Int32)) 30 then (if inb ((x3 * (5 : Int32)) + (2 : Int32)) 30 then (if inb ((x3 * (5 : Int32)) + (3 : Int32)) 30 then bd1 (md_X5_moved x2 ((c0 3) (ix ((x3 * (5 : Int32)) + (1 : Int32)))) ((c0 3) (ix ((x3 * (5 : Int32)) + (2 : Int32)))) ((c0 3) (ix ((x3 * (5 : Int32)) + (3 : Int32))))) (fun r10 => (if inb ((x3 * (5 : Int32)) + (4 : Int32)) 30 then (if r10 = ((c0 3) (ix ((x3 * (5 : Int32)) + (4 : Int32)))) then (ld_X1_notesFit_2 F c0 w0 n) x1 x2 (x3 + (1 : Int32)) else some ((0 : Int32))) else none)) else none) else none) else none) else (ld_X1_notesFit_2 F c0 w0 n) x1 x2 (x3 + (1 : Int32))) else none)))
def md_X1_notesFit (F : Nat) (c0 : Nat → Nat → Int32) (w0 : Nat → Nat → Int64) (p1 : Int32) (p2 : Int32) : Option (Int32) :=
  ld_X1_notesFit_2 F c0 w0 F p1 p2 (0 : Int32)
def ld_X1_pointKindsThatFit_4 (F : Nat) (c0 : Nat → Nat → Int32) (w0 : Nat → Nat → Int64) : Nat → (Int32) → (Int32) → (Int32) → Option (Int32)
  | 0, _, _, _ => none
  | n + 1, x1, x2, x3 =>
  (if (5 : Int32) < x3 then some (x2) else bd1 (md_X1_notesFit F c0 w0 x1 x3) (fun r3 => lt1 (if r3 = 0 then x2 else (x2 ||| ((1 : Int32) <<< (x3 &&& 31)))) (fun y5 => (ld_X1_pointKindsThatFit_4 F c0 w0 n) x1 y5 (x3 + (1 : Int32)))))
def md_X1_pointKindsThatFit (F : Nat) (c0 : Nat → Nat → Int32) (w0 : Nat → Nat → Int64) (p1 : Int32) : Option (Int32) :=
  ld_X1_pointKindsThatFit_4 F c0 w0 F p1 (0 : Int32) (0 : Int32)
def ld_X1_marksFit_2 (F : Nat) (c0 : Nat → Nat → Int32) (w0 : Nat → Nat → Int64) : Nat → (Int32) → (Int32) → (Int32) → Option (Int32)
  | 0, _, _, _ => none
  | n + 1, x1, x2, x3 =>
  (if (c0 6 0) ≤ x3 then some ((1 : Int32)) else (if (6 : Int32) ≤ x3 then some ((1 : Int32)) else (if inb (x3 * (4 : Int32)) 24 then (if ((c0 5) (ix (x3 * (4 : Int32)))) = x1 then (if inb ((x3 * (4 : Int32)) + (1 : Int32)) 24 then (if inb ((x3 * (4 : Int32)) + (2 : Int32)) 24 then bd1 (md_X5_counted x2 ((c0 5) (ix ((x3 * (4 : Int32)) + (1 : Int32)))) ((c0 5) (ix ((x3 * (4 : Int32)) + (2 : Int32))))) (fun r9 => (if inb ((x3 * (4 : Int32)) + (3 : Int32)) 24 then (if r9 = ((c0 5) (ix ((x3 * (4 : Int32)) + (3 : Int32)))) then (ld_X1_marksFit_2 F c0 w0 n) x1 x2 (x3 + (1 : Int32)) else some ((0 : Int32))) else none)) else none) else none) else (ld_X1_marksFit_2 F c0 w0 n) x1 x2 (x3 + (1 : Int32))) else none)))
def md_X1_marksFit (F : Nat) (c0 : Nat → Nat → Int32) (w0 : Nat → Nat → Int64) (p1 : Int32) (p2 : Int32) : Option (Int32) :=
  ld_X1_marksFit_2 F c0 w0 F p1 p2 (0 : Int32)
def ld_X1_counselKindsThatFit_4 (F : Nat) (c0 : Nat → Nat → Int32) (w0 : Nat → Nat → Int64) : Nat → (Int32) → (Int32) → (Int32) → Option (Int32)
  | 0, _, _, _ => none
  | n + 1, x1, x2, x3 =>
  (if (5 : Int32) < x3 then some (x2) else bd1 (md_X1_marksFit F c0 w0 x1 x3) (fun r3 => lt1 (if r3 = 0 then x2 else (x2 ||| ((1 : Int32) <<< (x3 &&& 31)))) (fun y5 => (ld_X1_counselKindsThatFit_4 F c0 w0 n) x1 y5 (x3 + (1 : Int32)))))
def md_X1_counselKindsThatFit (F : Nat) (c0 : Nat → Nat → Int32) (w0 : Nat → Nat → Int64) (p1 : Int32) : Option (Int32) :=
  ld_X1_counselKindsThatFit_4 F c0 w0 F p1 (0 : Int32) (0 : Int32)
def ld_X1_digestOn_86 (F : Nat) (c0 : Nat → Nat → Int32) (w0 : Nat → Nat → Int64) : Nat → (Int64) → (Int32) → Option (Int64)
  | 0, _, _ => none
  | n + 1, x3, x5 =>
  (if ((c0 6 0) * (4 : Int32)) ≤ x5 then some (x3) else (if (24 : Int32) ≤ x5 then some (x3) else (if inb x5 24 then lt1 (((31 : Int64) * x3) + ((c0 5) (ix x5)).toInt64) (fun y6 => (ld_X1_digestOn_86 F c0 w0 n) y6 (x5 + (1 : Int32))) else none)))
def ld_X1_digestOn_44 (F : Nat) (c0 : Nat → Nat → Int32) (w0 : Nat → Nat → Int64) : Nat → (Int64) → (Int32) → Option (Int64)
  | 0, _, _ => none
  | n + 1, x3, x5 =>
  (if ((c0 4 0) * (5 : Int32)) ≤ x5 then ld_X1_digestOn_86 F c0 w0 F x3 (0 : Int32) else (if (30 : Int32) ≤ x5 then ld_X1_digestOn_86 F c0 w0 F x3 (0 : Int32) else (if inb x5 30 then lt1 (((31 : Int64) * x3) + ((c0 3) (ix x5)).toInt64) (fun y11 => (ld_X1_digestOn_44 F c0 w0 n) y11 (x5 + (1 : Int32))) else none)))
def ld_X1_digestOn_5 (F : Nat) (c0 : Nat → Nat → Int32) (w0 : Nat → Nat → Int64) : Nat → (Int64) → (Int32) → Option (Int64)
  | 0, _, _ => none
  | n + 1, x3, x5 =>
  (if (c0 2 0) ≤ x5 then ld_X1_digestOn_44 F c0 w0 F x3 (0 : Int32) else (if (4 : Int32) ≤ x5 then ld_X1_digestOn_44 F c0 w0 F x3 (0 : Int32) else (if inb x5 4 then lt1 (((31 : Int64) * x3) + ((c0 1) (ix x5)).toInt64) (fun y16 => (ld_X1_digestOn_5 F c0 w0 n) y16 (x5 + (1 : Int32))) else none)))
def md_X1_digestOn (F : Nat) (c0 : Nat → Nat → Int32) (w0 : Nat → Nat → Int64) (p1 : Int64) : Option (Int64) :=
  ld_X1_digestOn_5 F c0 w0 F p1 (0 : Int32)
def md_X7_byteAt (c0 : Nat → Nat → Int32) (p1 : Int32) : Option (Int32) :=
  (if p1 < (0 : Int32) then some ((-1 : Int32)) else (if (c0 1 0) ≤ p1 then some ((-1 : Int32)) else (if (150 : Int32) ≤ p1 then some ((-1 : Int32)) else (if inb p1 150 then some (((c0 0) (ix p1))) else none))))
def jd_X7_kindAt_44 (c0 : Nat → Nat → Int32) (x2 : Int32) : Option (Int32) :=
  lt1 (if x2 = (59 : Int32) then (3 : Int32) else (if x2 = (32 : Int32) then (5 : Int32) else (4 : Int32))) (fun y1 => some (y1))
def jd_X7_kindAt_30 (c0 : Nat → Nat → Int32) (x2 : Int32) : Option (Int32) :=
  (if x2 < (48 : Int32) then jd_X7_kindAt_44 c0 x2 else (if (57 : Int32) < x2 then jd_X7_kindAt_44 c0 x2 else some ((2 : Int32))))
def md_X7_kindAt (c0 : Nat → Nat → Int32) (p1 : Int32) : Option (Int32) :=
  (if p1 < (c0 1 0) then bd1 (md_X7_byteAt c0 p1) (fun r11 => (if r11 < (97 : Int32) then jd_X7_kindAt_30 c0 r11 else (if (122 : Int32) < r11 then jd_X7_kindAt_30 c0 r11 else some ((1 : Int32))))) else some ((0 : Int32)))
def ld_X7_takeNumber_29 (F : Nat) : Nat → (Nat → Nat → Int32) → (Int32) → Option ((Nat → Nat → Int32))
  | 0, _, _ => none
  | n + 1, c0, x1 =>
  (if (c0 5 0) ≤ x1 then some (c0) else bd1 (md_X7_byteAt c0 x1) (fun r3 => (ld_X7_takeNumber_29 F n) (rs c0 4 (fun _ => ((((10 : Int32) * (c0 4 0)) + r3) - (48 : Int32)))) (x1 + (1 : Int32))))
def md_X7_takeNumber (F : Nat) (c0 : Nat → Nat → Int32) : Option ((Nat → Nat → Int32)) :=
  (if ((c0 5 0) - (c0 3 0)) ≤ (2 : Int32) then ld_X7_takeNumber_29 F F (rs c0 4 (fun _ => (0 : Int32))) (c0 3 0) else some ((rs c0 2 (fun _ => (4 : Int32)))))
def jd_X7_next_135 (F : Nat) (c0 : Nat → Nat → Int32) : Option ((Nat → Nat → Int32)) :=
  (if (c0 2 0) = (2 : Int32) then bd1 (md_X7_takeNumber F c0) (fun cv3 => some (cv3)) else some (c0))
def jd_X7_next_107 (F : Nat) (k80 : (Nat → Nat → Int32) → Option ((Nat → Nat → Int32))) (c0 : Nat → Nat → Int32) : Option ((Nat → Nat → Int32)) :=
  bd1 (md_X7_kindAt c0 (c0 5 0)) (fun r6 => (if r6 = (c0 2 0) then k80 (rs c0 5 (fun _ => ((c0 5 0) + (1 : Int32)))) else jd_X7_next_135 F c0))
def ld_X7_next_80 (F : Nat) : Nat → (Nat → Nat → Int32) → Option ((Nat → Nat → Int32))
  | 0, _ => none
  | n + 1, c0 =>
  (if (c0 1 0) ≤ (c0 5 0) then jd_X7_next_135 F c0 else (if (c0 2 0) = (1 : Int32) then jd_X7_next_107 F (ld_X7_next_80 F n) c0 else (if (c0 2 0) = (2 : Int32) then jd_X7_next_107 F (ld_X7_next_80 F n) c0 else jd_X7_next_135 F c0)))
def jd_X7_next_44 (F : Nat) (c0 : Nat → Nat → Int32) : Option ((Nat → Nat → Int32)) :=
  bd1 (md_X7_kindAt c0 (c0 3 0)) (fun r12 => lt1 (if r12 = 0 then (c0 3 0) else ((c0 3 0) + (1 : Int32))) (fun y14 => ld_X7_next_80 F F (rs (rs c0 2 (fun _ => r12)) 5 (fun _ => y14))))
def ld_X7_next_8 (F : Nat) : Nat → (Nat → Nat → Int32) → Option ((Nat → Nat → Int32))
  | 0, _ => none
  | n + 1, c0 =>
  (if (c0 1 0) ≤ (c0 3 0) then jd_X7_next_44 F c0 else bd1 (md_X7_kindAt c0 (c0 3 0)) (fun r19 => (if r19 = (5 : Int32) then (ld_X7_next_8 F n) (rs c0 3 (fun _ => ((c0 3 0) + (1 : Int32)))) else jd_X7_next_44 F c0)))
def md_X7_next (F : Nat) (c0 : Nat → Nat → Int32) : Option ((Nat → Nat → Int32)) :=
  ld_X7_next_8 F F (rs c0 3 (fun _ => (c0 5 0)))
def md_X8_within (p0 : Int32) (p1 : Int32) (p2 : Int32) : Option (Int32) :=
  lt1 (if p1 < p0 then (0 : Int32) else (if p2 < p1 then (0 : Int32) else (1 : Int32))) (fun y1 => (if y1 = 0 ∨ y1 = 1 then some (y1) else none))
def md_X2_numberWithin (F : Nat) (c1 : Nat → Nat → Int32) (p1 : Int32) (p2 : Int32) : Option (Int32 × (Nat → Nat → Int32)) :=
  bd1 (md_X7_next F c1) (fun cv1 => (if (cv1 2 0) = (2 : Int32) then bd1 (md_X8_within p1 (cv1 4 0) p2) (fun r7 => (if r7 = 0 then some ((0 : Int32), cv1) else some ((1 : Int32), cv1))) else some ((0 : Int32), cv1)))
def md_X2_semicolon (F : Nat) (c1 : Nat → Nat → Int32) : Option (Int32 × (Nat → Nat → Int32)) :=
  bd1 (md_X7_next F c1) (fun cv1 => lt1 (if (cv1 2 0) = (3 : Int32) then (1 : Int32) else (0 : Int32)) (fun y3 => (if y3 = 0 ∨ y3 = 1 then some (y3, cv1) else none)))
def md_X8_isCounsel (p0 : Int32) : Option (Int32) :=
  bd1 (md_X8_within (0 : Int32) p0 (1 : Int32)) (fun r1 => (if r1 = 0 ∨ r1 = 1 then some (r1) else none))
def jd_X2_readBows_53 (F : Nat) (c1 : Nat → Nat → Int32) (c2 : Nat → Nat → Int32) : Option (Int32 × (Nat → Nat → Int32) × (Nat → Nat → Int32)) :=
  bd2 (md_X2_semicolon F c2) (fun r1 cv2 => (if r1 = 0 ∨ r1 = 1 then some (r1, c1, cv2) else none))
def md_X2_readBows (F : Nat) (c1 : Nat → Nat → Int32) (c2 : Nat → Nat → Int32) : Option (Int32 × (Nat → Nat → Int32) × (Nat → Nat → Int32)) :=
  bd2 (md_X2_numberWithin F c2 (0 : Int32) (1 : Int32)) (fun r10 cv11 => (if r10 = 0 then some ((0 : Int32), c1, cv11) else bd2 (md_X2_numberWithin F cv11 (0 : Int32) (3 : Int32)) (fun r14 cv15 => (if r14 = 0 then some ((0 : Int32), c1, cv15) else bd1 (md_X8_isCounsel (cv11 4 0)) (fun r18 => (if r18 = 0 then jd_X2_readBows_53 F c1 cv15 else (if inb (cv11 4 0) 2 then jd_X2_readBows_53 F (rs c1 1 (upd (c1 1) (ix (cv11 4 0)) (cv15 4 0))) cv15 else none)))))))
def md_X2_readCase (F : Nat) (c1 : Nat → Nat → Int32) (c2 : Nat → Nat → Int32) : Option (Int32 × (Nat → Nat → Int32) × (Nat → Nat → Int32)) :=
  bd2 (md_X2_numberWithin F c2 (0 : Int32) (5 : Int32)) (fun r1 cv2 => (if r1 = 0 then some ((0 : Int32), c1, cv2) else bd2 (md_X2_numberWithin F cv2 (0 : Int32) (5 : Int32)) (fun r5 cv6 => (if r5 = 0 then some ((0 : Int32), c1, cv6) else bd1 (md_X3_begin c1 (cv2 4 0) (cv6 4 0)) (fun cv9 => bd2 (md_X2_semicolon F cv6) (fun r11 cv12 => (if r11 = 0 ∨ r11 = 1 then some (r11, cv9, cv12) else none)))))))
def md_X2_readObjecting (F : Nat) (c1 : Nat → Nat → Int32) (c2 : Nat → Nat → Int32) : Option (Int32 × (Nat → Nat → Int32) × (Nat → Nat → Int32)) :=
  bd1 (md_X3_mayObject c1) (fun r1 => (if r1 = 0 then some ((0 : Int32), c1, c2) else bd1 (md_X3_bow c1) (fun cv4 => bd2 (md_X2_semicolon F c2) (fun r6 cv7 => (if r6 = 0 ∨ r6 = 1 then some (r6, cv4, cv7) else none)))))
def md_X3_add (c0 : Nat → Nat → Int32) (p1 : Int32) (p2 : Int32) (p3 : Int32) : Option ((Nat → Nat → Int32)) :=
  bd1 (md_X8_within (0 : Int32) (c0 5 0) (5 : Int32)) (fun r1 => (if r1 = 0 then some (c0) else (if inb (c0 5 0) 6 then (if inb (c0 5 0) 6 then (if inb (c0 5 0) 6 then some ((rs (rs (rs (rs c0 2 (upd (c0 2) (ix (c0 5 0)) p1)) 3 (upd (c0 3) (ix (c0 5 0)) p2)) 4 (upd (c0 4) (ix (c0 5 0)) p3)) 5 (fun _ => ((c0 5 0) + (1 : Int32))))) else none) else none) else none)))
def md_X3_hasRoom (c0 : Nat → Nat → Int32) : Option (Int32) :=
  lt1 (if (6 : Int32) ≤ (c0 5 0) then (0 : Int32) else (1 : Int32)) (fun y1 => (if y1 = 0 ∨ y1 = 1 then some (y1) else none))
def md_X2_readPoint (F : Nat) (c1 : Nat → Nat → Int32) (c2 : Nat → Nat → Int32) : Option (Int32 × (Nat → Nat → Int32) × (Nat → Nat → Int32)) :=
  bd1 (md_X3_hasRoom c1) (fun r1 => (if r1 = 0 then some ((0 : Int32), c1, c2) else bd2 (md_X2_numberWithin F c2 (0 : Int32) (5 : Int32)) (fun r9 cv10 => (if r9 = 0 then some ((0 : Int32), c1, cv10) else bd2 (md_X2_numberWithin F cv10 (1 : Int32) (9 : Int32)) (fun r13 cv14 => (if r13 = 0 then some ((0 : Int32), c1, cv14) else bd2 (md_X2_numberWithin F cv14 (0 : Int32) (3 : Int32)) (fun r17 cv18 => (if r17 = 0 then some ((0 : Int32), c1, cv18) else bd1 (md_X3_add c1 (cv10 4 0) (cv14 4 0) (cv18 4 0)) (fun cv21 => bd2 (md_X2_semicolon F cv18) (fun r23 cv24 => (if r23 = 0 ∨ r23 = 1 then some (r23, cv21, cv24) else none)))))))))))
def md_X2_readSaying (F : Nat) (c1 : Nat → Nat → Int32) (c2 : Nat → Nat → Int32) : Option (Int32 × (Nat → Nat → Int32) × (Nat → Nat → Int32)) :=
  bd2 (md_X2_numberWithin F c2 (0 : Int32) ((c1 5 0) - (1 : Int32))) (fun r1 cv2 => (if r1 = 0 then some ((0 : Int32), c1, cv2) else bd1 (md_X8_has (c1 6 0) (cv2 4 0)) (fun r10 => (if r10 = 0 then bd1 (md_X3_speak c1 (cv2 4 0)) (fun cv13 => bd2 (md_X2_semicolon F cv2) (fun r15 cv16 => (if r15 = 0 ∨ r15 = 1 then some (r15, cv13, cv16) else none))) else some ((0 : Int32), c1, cv2)))))
def ld_X7_tokenIs_28 (F : Nat) (i1 : Nat) (c0 : Nat → Nat → Int32) : Nat → (Int32) → Option (Int32)
  | 0, _ => none
  | n + 1, x2 =>
  (if (nI (lenZ.getD i1 0)) ≤ x2 then some ((1 : Int32)) else bd1 (md_X7_byteAt c0 ((c0 3 0) + x2)) (fun r3 => (if inb x2 (lenZ.getD i1 0) then (if r3 = (chZ i1 x2) then (ld_X7_tokenIs_28 F i1 c0 n) (x2 + (1 : Int32)) else some ((0 : Int32))) else none)))
def md_X7_tokenIs (F : Nat) (c0 : Nat → Nat → Int32) (i1 : Nat) : Option (Int32) :=
  (if (c0 2 0) = (1 : Int32) then (if ((c0 5 0) - (c0 3 0)) = (nI (lenZ.getD i1 0)) then ld_X7_tokenIs_28 F i1 c0 F (0 : Int32) else some ((0 : Int32))) else some ((0 : Int32)))
def md_X2_readItem (F : Nat) (c1 : Nat → Nat → Int32) (c2 : Nat → Nat → Int32) (p1 : Int32) : Option (Int32 × (Nat → Nat → Int32) × (Nat → Nat → Int32)) :=
  (if p1 = 0 then bd1 (md_X7_tokenIs F c2 1) (fun r2 => (if r2 = 0 then bd1 (md_X7_tokenIs F c2 2) (fun r5 => (if r5 = 0 then bd1 (md_X7_tokenIs F c2 3) (fun r8 => (if r8 = 0 then bd1 (md_X7_tokenIs F c2 4) (fun r11 => (if r11 = 0 then some ((0 : Int32), c1, c2) else bd3 (md_X2_readObjecting F c1 c2) (fun r19 cv20 cv21 => (if r19 = 0 then some ((0 : Int32), cv20, cv21) else some ((1 : Int32), cv20, cv21))))) else bd3 (md_X2_readSaying F c1 c2) (fun r34 cv35 cv36 => (if r34 = 0 ∨ r34 = 1 then some (r34, cv35, cv36) else none)))) else bd3 (md_X2_readPoint F c1 c2) (fun r44 cv45 cv46 => (if r44 = 0 ∨ r44 = 1 then some (r44, cv45, cv46) else none)))) else bd3 (md_X2_readBows F c1 c2) (fun r54 cv55 cv56 => (if r54 = 0 ∨ r54 = 1 then some (r54, cv55, cv56) else none)))) else bd1 (md_X7_tokenIs F c2 0) (fun r64 => (if r64 = 0 then some ((0 : Int32), c1, c2) else bd3 (md_X2_readCase F c1 c2) (fun r72 cv73 cv74 => (if r72 = 0 then some ((0 : Int32), cv73, cv74) else some ((1 : Int32), cv73, cv74))))))
def md_X7_rewind (c0 : Nat → Nat → Int32) : Option ((Nat → Nat → Int32)) :=
  some ((rs (rs (rs c0 2 (fun _ => (0 : Int32))) 3 (fun _ => (0 : Int32))) 5 (fun _ => (0 : Int32))))
def jd_X2_readAll_37 (F : Nat) (k16 : (Nat → Nat → Int32) → (Nat → Nat → Int32) → (Int32) → Option (Int32 × (Nat → Nat → Int32) × (Nat → Nat → Int32))) (c1 : Nat → Nat → Int32) (c2 : Nat → Nat → Int32) (x1 : Int32) : Option (Int32 × (Nat → Nat → Int32) × (Nat → Nat → Int32)) :=
  lt1 (if x1 = 0 then (1 : Int32) else (0 : Int32)) (fun y1 => bd3 (md_X2_readItem F c1 c2 y1) (fun r5 cv6 cv7 => (if r5 = 0 then some ((-1 : Int32), cv6, cv7) else bd1 (md_X7_next F cv7) (fun cv10 => k16 cv6 cv10 (x1 + (1 : Int32))))))
def ld_X2_readAll_16 (F : Nat) : Nat → (Nat → Nat → Int32) → (Nat → Nat → Int32) → (Int32) → Option (Int32 × (Nat → Nat → Int32) × (Nat → Nat → Int32))
  | 0, _, _, _ => none
  | n + 1, c1, c2, x1 =>
  (if (150 : Int32) < x1 then some (x1, c1, c2) else (if x1 = 0 then jd_X2_readAll_37 F (ld_X2_readAll_16 F n) c1 c2 x1 else (if (c2 2 0) = 0 then some (x1, c1, c2) else jd_X2_readAll_37 F (ld_X2_readAll_16 F n) c1 c2 x1)))
def md_X2_readAll (F : Nat) (c1 : Nat → Nat → Int32) (c2 : Nat → Nat → Int32) : Option (Int32 × (Nat → Nat → Int32) × (Nat → Nat → Int32)) :=
  bd1 (md_X7_rewind c2) (fun cv30 => bd1 (md_X7_next F cv30) (fun cv32 => ld_X2_readAll_16 F F c1 cv32 (0 : Int32)))
def md_X3_winner (c0 : Nat → Nat → Int32) : Option (Int32) :=
  lt1 (if (c0 7 0) ≤ 0 then (1 : Int32) else (0 : Int32)) (fun y1 => some (y1))
def md_X3_counselZeroWins (c0 : Nat → Nat → Int32) : Option (Int32) :=
  bd1 (md_X3_winner c0) (fun r1 => bd1 (md_X3_chairOf c0 (0 : Int32)) (fun r3 => lt1 (if r1 = r3 then (1 : Int32) else (0 : Int32)) (fun y5 => (if y5 = 0 ∨ y5 = 1 then some (y5) else none))))
def ld_X3_allGroundsLeft_4 (F : Nat) (c0 : Nat → Nat → Int32) : Nat → (Int32) → (Int32) → Option (Int32)
  | 0, _, _ => none
  | n + 1, x1, x2 =>
  (if (6 : Int32) ≤ x2 then some (x1) else (if (c0 5 0) ≤ x2 then some (x1) else (if inb x2 6 then (ld_X3_allGroundsLeft_4 F c0 n) (x1 + ((c0 4) (ix x2))) (x2 + (1 : Int32)) else none)))
def md_X3_allGroundsLeft (F : Nat) (c0 : Nat → Nat → Int32) : Option (Int32) :=
  ld_X3_allGroundsLeft_4 F c0 F (0 : Int32) (0 : Int32)
def ld_X3_digestOn_50 (F : Nat) (c0 : Nat → Nat → Int32) : Nat → (Int64) → (Int32) → Option (Int64)
  | 0, _, _ => none
  | n + 1, x3, x5 =>
  (if (6 : Int32) ≤ x5 then some (x3) else (if (c0 5 0) ≤ x5 then some (x3) else (if inb x5 6 then lt1 (((31 : Int64) * x3) + ((c0 2) (ix x5)).toInt64) (fun y6 => (if inb x5 6 then lt1 (((31 : Int64) * y6) + ((c0 3) (ix x5)).toInt64) (fun y9 => (if inb x5 6 then lt1 (((31 : Int64) * y9) + ((c0 4) (ix x5)).toInt64) (fun y12 => bd1 (md_X8_has (c0 6 0) x5) (fun r14 => lt1 (if r14 = 0 then (0 : Int32) else (1 : Int32)) (fun y16 => lt1 (((31 : Int64) * y12) + y16.toInt64) (fun y20 => (ld_X3_digestOn_50 F c0 n) y20 (x5 + (1 : Int32)))))) else none)) else none)) else none)))
def ld_X3_digestOn_5 (F : Nat) (c0 : Nat → Nat → Int32) : Nat → (Int64) → (Int32) → Option (Int64)
  | 0, _, _ => none
  | n + 1, x3, x5 =>
  (if (2 : Int32) ≤ x5 then ld_X3_digestOn_50 F c0 F x3 (0 : Int32) else (if inb x5 2 then lt1 (((31 : Int64) * x3) + ((c0 0) (ix x5)).toInt64) (fun y24 => (if inb x5 2 then lt1 (((31 : Int64) * y24) + ((c0 1) (ix x5)).toInt64) (fun y27 => (ld_X3_digestOn_5 F c0 n) y27 (x5 + (1 : Int32))) else none)) else none))
def md_X3_digestOn (F : Nat) (c0 : Nat → Nat → Int32) (p1 : Int64) : Option (Int64) :=
  ld_X3_digestOn_5 F c0 F p1 (0 : Int32)
def ld_X4_speakAll_2 (F : Nat) : Nat → (Nat → Nat → Int32) → (Int32) → (Int32) → Option ((Nat → Nat → Int32))
  | 0, _, _, _ => none
  | n + 1, c0, x1, x2 =>
  (if (6 : Int32) ≤ x2 then some (c0) else bd1 (md_X8_has x1 x2) (fun r3 => (if r3 = 0 then (ld_X4_speakAll_2 F n) c0 x1 (x2 + (1 : Int32)) else bd1 (md_X3_speak c0 x2) (fun cv6 => (ld_X4_speakAll_2 F n) cv6 x1 (x2 + (1 : Int32))))))
def md_X4_speakAll (F : Nat) (c0 : Nat → Nat → Int32) (p1 : Int32) : Option ((Nat → Nat → Int32)) :=
  ld_X4_speakAll_2 F F c0 p1 (0 : Int32)
def jd_X4_proofFor_53 (F : Nat) (k17 : (Nat → Nat → Int32) → (Int32) → (Int64) → (Int32) → (Int32) → (Int32) → Option (Int32 × (Nat → Nat → Int32))) (c0 : Nat → Nat → Int32) (x1 : Int32) (x2 : Int64) (x4 : Int32) (x5 : Int32) (x6 : Int32) : Option (Int32 × (Nat → Nat → Int32)) :=
  bd1 (md_X3_back F c0 x2) (fun cv1 => bd1 (md_X4_speakAll F cv1 x6) (fun cv3 => (if x1 = 0 then (if (cv3 7 0) ≤ 0 then k17 cv3 x1 x2 x4 x5 (x6 + (1 : Int32)) else k17 cv3 x1 x2 x4 x6 (x6 + (1 : Int32))) else (if 0 ≤ (cv3 7 0) then k17 cv3 x1 x2 x4 x5 (x6 + (1 : Int32)) else k17 cv3 x1 x2 x4 x6 (x6 + (1 : Int32))))))
def ld_X4_proofFor_17 (F : Nat) : Nat → (Nat → Nat → Int32) → (Int32) → (Int64) → (Int32) → (Int32) → (Int32) → Option (Int32 × (Nat → Nat → Int32))
  | 0, _, _, _, _, _, _ => none
  | n + 1, c0, x1, x2, x4, x5, x6 =>
  (if x4 < x6 then some (x5, c0) else (if (x6 &&& (x4 ^^^ (-1 : Int32))) = 0 then (if x5 = (-1 : Int32) then jd_X4_proofFor_53 F (ld_X4_proofFor_17 F n) c0 x1 x2 x4 x5 x6 else bd1 (md_J6_bitCount_0f7a4 x6) (fun r14 => bd1 (md_J6_bitCount_0f7a4 x5) (fun r16 => (if r16 ≤ r14 then (ld_X4_proofFor_17 F n) c0 x1 x2 x4 x5 (x6 + (1 : Int32)) else jd_X4_proofFor_53 F (ld_X4_proofFor_17 F n) c0 x1 x2 x4 x5 x6)))) else (ld_X4_proofFor_17 F n) c0 x1 x2 x4 x5 (x6 + (1 : Int32))))
def md_X4_proofFor (F : Nat) (c0 : Nat → Nat → Int32) (p1 : Int32) : Option (Int32 × (Nat → Nat → Int32)) :=
  bd1 (md_X3_keep F c0) (fun r19 => bd1 (md_X3_unsaid c0) (fun r21 => ld_X4_proofFor_17 F F c0 p1 r19 r21 (-1 : Int32) (0 : Int32)))
def ld_X4_bowsTo_7 (F : Nat) : Nat → (Nat → Nat → Int32) → (Int32) → (Int32) → (Int32) → Option (Int32 × (Nat → Nat → Int32))
  | 0, _, _, _, _ => none
  | n + 1, c0, x1, x2, x3 =>
  (if (6 : Int32) ≤ x3 then some ((1 : Int32), c0) else bd1 (md_X8_has x2 x3) (fun r5 => (if r5 = 0 then (ld_X4_bowsTo_7 F n) c0 x1 x2 (x3 + (1 : Int32)) else bd1 (md_X3_speak c0 x3) (fun cv8 => bd1 (md_X8_has x1 x3) (fun r10 => (if r10 = 0 then (ld_X4_bowsTo_7 F n) cv8 x1 x2 (x3 + (1 : Int32)) else bd1 (md_X3_mayObject cv8) (fun r13 => (if r13 = 0 then some ((0 : Int32), cv8) else bd1 (md_X3_bow cv8) (fun cv16 => (ld_X4_bowsTo_7 F n) cv16 x1 x2 (x3 + (1 : Int32)))))))))))
def md_X4_bowsTo (F : Nat) (c0 : Nat → Nat → Int32) (p1 : Int32) : Option (Int32 × (Nat → Nat → Int32)) :=
  bd1 (md_X3_unsaid c0) (fun r21 => ld_X4_bowsTo_7 F F c0 p1 r21 (0 : Int32))
def ld_X4_weightOf_11 (F : Nat) : Nat → (Nat → Nat → Int32) → (Int32) → (Int32) → (Int32) → (Int64) → (Int32) → Option (Int64 × (Nat → Nat → Int32))
  | 0, _, _, _, _, _, _ => none
  | n + 1, c0, x1, x2, x3, x4, x6 =>
  (if (6 : Int32) ≤ x6 then some (x4, c0) else bd1 (md_X8_has x3 x6) (fun r5 => (if r5 = 0 then (ld_X4_weightOf_11 F n) c0 x1 x2 x3 x4 (x6 + (1 : Int32)) else bd1 (md_X3_speak c0 x6) (fun cv8 => bd1 (md_X3_mayObject cv8) (fun r10 => bd1 (md_X8_has x1 x6) (fun r12 => (if r12 = 0 then lt1 (if r10 = 0 then (10 : Int64) else ((10 : Int32) - x2).toInt64) (fun y15 => (ld_X4_weightOf_11 F n) cv8 x1 x2 x3 (x4 * y15) (x6 + (1 : Int32))) else bd1 (md_X3_bow cv8) (fun cv19 => lt1 (if r10 = 0 then (0 : Int64) else x2.toInt64) (fun y21 => (ld_X4_weightOf_11 F n) cv19 x1 x2 x3 (x4 * y21) (x6 + (1 : Int32)))))))))))
def md_X4_weightOf (F : Nat) (c0 : Nat → Nat → Int32) (p1 : Int32) (p2 : Int32) : Option (Int64 × (Nat → Nat → Int32)) :=
  bd1 (md_X3_unsaid c0) (fun r25 => ld_X4_weightOf_11 F F c0 p1 p2 r25 (1 : Int64) (0 : Int32))
def ld_X4_dayBy_11 (F : Nat) : Nat → (Nat → Nat → Int32) → (Int64) → (Int32) → (Int32) → Option (Int64 × (Nat → Nat → Int32))
  | 0, _, _, _, _ => none
  | n + 1, c0, x3, x5, x6 =>
  (if (6 : Int32) ≤ x6 then some (x3, c0) else bd1 (md_X8_has x5 x6) (fun r5 => (if r5 = 0 then (ld_X4_dayBy_11 F n) c0 x3 x5 (x6 + (1 : Int32)) else lt1 (((x3 * (1103515245 : Int64)) + (12345 : Int64)) - ((x3 * (1103515245 : Int64)) + (12345 : Int64)) / (2147483648 : Int64) * (2147483648 : Int64)) (fun y8 => bd1 (md_X3_speak c0 x6) (fun cv10 => (if (lg_cmp ((y8 / (65536 : Int64)) - (y8 / (65536 : Int64)) / (2 : Int64) * (2 : Int64)) (1 : Int64)) = 0 then bd1 (md_X3_bow cv10) (fun cv13 => (ld_X4_dayBy_11 F n) cv13 y8 x5 (x6 + (1 : Int32))) else (ld_X4_dayBy_11 F n) cv10 y8 x5 (x6 + (1 : Int32))))))))
def md_X4_dayBy (F : Nat) (c0 : Nat → Nat → Int32) (p1 : Int64) : Option (Int64 × (Nat → Nat → Int32)) :=
  bd1 (md_X3_unsaid c0) (fun r15 => ld_X4_dayBy_11 F F c0 p1 r15 (0 : Int32))
def ld_X5_mostMovingAlike_18 (F : Nat) (k6 : (Int32) → (Int32) → (Int32) → (Int32) → (Int32) → (Int32) → Option (Int32)) : Nat → (Int32) → (Int32) → (Int32) → (Int32) → (Int32) → (Int32) → (Int32) → (Int32) → Option (Int32)
  | 0, _, _, _, _, _, _, _, _ => none
  | n + 1, x0, x1, x2, x3, x4, x5, x6, x7 =>
  (if (5 : Int32) < x7 then lt1 (if x4 < x6 then x6 else x4) (fun y2 => k6 x0 x1 x2 x3 y2 (x5 + (1 : Int32))) else bd1 (md_X8_has x0 x5) (fun r4 => (if r4 = 0 then (ld_X5_mostMovingAlike_18 F k6 n) x0 x1 x2 x3 x4 x5 x6 (x7 + (1 : Int32)) else bd1 (md_X8_has x0 x7) (fun r7 => (if r7 = 0 then (ld_X5_mostMovingAlike_18 F k6 n) x0 x1 x2 x3 x4 x5 x6 (x7 + (1 : Int32)) else bd1 (md_X5_moved x5 x1 x2 x3) (fun r10 => bd1 (md_X5_moved x7 x1 x2 x3) (fun r12 => (if r10 = r12 then (ld_X5_mostMovingAlike_18 F k6 n) x0 x1 x2 x3 x4 x5 (x6 + (1 : Int32)) (x7 + (1 : Int32)) else (ld_X5_mostMovingAlike_18 F k6 n) x0 x1 x2 x3 x4 x5 x6 (x7 + (1 : Int32))))))))))
def ld_X5_mostMovingAlike_6 (F : Nat) : Nat → (Int32) → (Int32) → (Int32) → (Int32) → (Int32) → (Int32) → Option (Int32)
  | 0, _, _, _, _, _, _ => none
  | n + 1, x0, x1, x2, x3, x4, x5 =>
  (if (5 : Int32) < x5 then some (x4) else ld_X5_mostMovingAlike_18 F (ld_X5_mostMovingAlike_6 F n) F x0 x1 x2 x3 x4 x5 (0 : Int32) (0 : Int32))
def md_X5_mostMovingAlike (F : Nat) (p0 : Int32) (p1 : Int32) (p2 : Int32) (p3 : Int32) : Option (Int32) :=
  ld_X5_mostMovingAlike_6 F F p0 p1 p2 p3 (0 : Int32) (0 : Int32)
def ld_X5_bestLook_22 (F : Nat) (k8 : (Int32) → (Int32) → (Int32) → (Int32) → (Int32) → Option (Int32)) : Nat → (Int32) → (Int32) → (Int32) → (Int32) → (Int32) → (Int32) → Option (Int32)
  | 0, _, _, _, _, _, _ => none
  | n + 1, x0, x1, x2, x3, x4, x5 =>
  (if (10 : Int32) < x5 then k8 x0 x1 x2 x3 (x4 + (1 : Int32)) else bd1 (md_X5_mostMovingAlike F x0 x1 x5 x4) (fun r2 => lt1 (if x3 ≤ r2 then x2 else ((((100 : Int32) * x4) + x5) + (10 : Int32))) (fun y4 => lt1 (if x3 ≤ r2 then x3 else r2) (fun y6 => (ld_X5_bestLook_22 F k8 n) x0 x1 y4 y6 x4 (x5 + (1 : Int32))))))
def ld_X5_bestLook_8 (F : Nat) : Nat → (Int32) → (Int32) → (Int32) → (Int32) → (Int32) → Option (Int32)
  | 0, _, _, _, _, _ => none
  | n + 1, x0, x1, x2, x3, x4 =>
  (if (5 : Int32) < x4 then some (x2) else (if x0 = 0 then some (x2) else ld_X5_bestLook_22 F (ld_X5_bestLook_8 F n) F x0 x1 x2 x3 x4 (-10 : Int32)))
def md_X5_bestLook (F : Nat) (p0 : Int32) (p1 : Int32) : Option (Int32) :=
  ld_X5_bestLook_8 F F p0 p1 (-1 : Int32) (7 : Int32) (0 : Int32)
def ld_X5_mostCountingAlike_17 (F : Nat) (k5 : (Int32) → (Int32) → (Int32) → (Int32) → (Int32) → Option (Int32)) : Nat → (Int32) → (Int32) → (Int32) → (Int32) → (Int32) → (Int32) → (Int32) → Option (Int32)
  | 0, _, _, _, _, _, _, _ => none
  | n + 1, x0, x1, x2, x3, x4, x5, x6 =>
  (if (5 : Int32) < x6 then lt1 (if x3 < x5 then x5 else x3) (fun y2 => k5 x0 x1 x2 y2 (x4 + (1 : Int32))) else bd1 (md_X8_has x0 x4) (fun r4 => (if r4 = 0 then (ld_X5_mostCountingAlike_17 F k5 n) x0 x1 x2 x3 x4 x5 (x6 + (1 : Int32)) else bd1 (md_X8_has x0 x6) (fun r7 => (if r7 = 0 then (ld_X5_mostCountingAlike_17 F k5 n) x0 x1 x2 x3 x4 x5 (x6 + (1 : Int32)) else bd1 (md_X5_counted x4 x1 x2) (fun r10 => bd1 (md_X5_counted x6 x1 x2) (fun r12 => (if r10 = r12 then (ld_X5_mostCountingAlike_17 F k5 n) x0 x1 x2 x3 x4 (x5 + (1 : Int32)) (x6 + (1 : Int32)) else (ld_X5_mostCountingAlike_17 F k5 n) x0 x1 x2 x3 x4 x5 (x6 + (1 : Int32))))))))))
def ld_X5_mostCountingAlike_5 (F : Nat) : Nat → (Int32) → (Int32) → (Int32) → (Int32) → (Int32) → Option (Int32)
  | 0, _, _, _, _, _ => none
  | n + 1, x0, x1, x2, x3, x4 =>
  (if (5 : Int32) < x4 then some (x3) else ld_X5_mostCountingAlike_17 F (ld_X5_mostCountingAlike_5 F n) F x0 x1 x2 x3 x4 (0 : Int32) (0 : Int32))
def md_X5_mostCountingAlike (F : Nat) (p0 : Int32) (p1 : Int32) (p2 : Int32) : Option (Int32) :=
  ld_X5_mostCountingAlike_5 F F p0 p1 p2 (0 : Int32) (0 : Int32)
def ld_X5_bestQuestion_19 (F : Nat) (k7 : (Int32) → (Int32) → (Int32) → (Int32) → Option (Int32)) : Nat → (Int32) → (Int32) → (Int32) → (Int32) → (Int32) → Option (Int32)
  | 0, _, _, _, _, _ => none
  | n + 1, x0, x1, x2, x3, x4 =>
  (if (40 : Int32) < x4 then k7 x0 x1 x2 (x3 + (1 : Int32)) else bd1 (md_X5_mostCountingAlike F x0 x4 x3) (fun r2 => lt1 (if x2 ≤ r2 then x1 else (((100 : Int32) * x3) + x4)) (fun y4 => lt1 (if x2 ≤ r2 then x2 else r2) (fun y6 => (ld_X5_bestQuestion_19 F k7 n) x0 y4 y6 x3 (x4 + (1 : Int32))))))
def ld_X5_bestQuestion_7 (F : Nat) : Nat → (Int32) → (Int32) → (Int32) → (Int32) → Option (Int32)
  | 0, _, _, _, _ => none
  | n + 1, x0, x1, x2, x3 =>
  (if (1 : Int32) < x3 then some (x1) else (if x0 = 0 then some (x1) else ld_X5_bestQuestion_19 F (ld_X5_bestQuestion_7 F n) F x0 x1 x2 x3 (0 : Int32)))
def md_X5_bestQuestion (F : Nat) (p0 : Int32) : Option (Int32) :=
  ld_X5_bestQuestion_7 F F p0 (-1 : Int32) (7 : Int32) (0 : Int32)
def md_X6_gain (p0 : Int32) (p1 : Int32) (p2 : Int32) : Option (Int32) :=
  lt1 (if (p0 + p1) < (10 : Int32) then (((5 : Int32) + p1) - p0) else p2) (fun y1 => some (y1))
def ld_X6_rests_2 (F : Nat) : Nat → (Int32) → (Int32) → (Int32) → (Int32) → Option (Int32)
  | 0, _, _, _, _ => none
  | n + 1, x0, x1, x2, x3 =>
  (if (10 : Int32) ≤ x3 then some ((1 : Int32)) else bd1 (md_X6_gain x3 x1 x2) (fun r3 => bd1 (md_X6_gain x0 x1 x2) (fun r5 => (if r5 < r3 then some ((0 : Int32)) else bd1 (md_X6_gain x3 x0 (-x2)) (fun r9 => bd1 (md_X6_gain x1 x0 (-x2)) (fun r11 => (if r9 ≤ r11 then (ld_X6_rests_2 F n) x0 x1 x2 (x3 + (1 : Int32)) else some ((0 : Int32)))))))))
def md_X6_rests (F : Nat) (p0 : Int32) (p1 : Int32) (p2 : Int32) : Option (Int32) :=
  ld_X6_rests_2 F F p0 p1 p2 (0 : Int32)
def md_X7_append (c0 : Nat → Nat → Int32) (p1 : Int32) : Option ((Nat → Nat → Int32)) :=
  (if (150 : Int32) ≤ (c0 1 0) then some (c0) else (if inb (c0 1 0) 150 then some ((rs (rs c0 0 (upd (c0 0) (ix (c0 1 0)) p1)) 1 (fun _ => ((c0 1 0) + (1 : Int32))))) else none))
def md_X8_isKind (p0 : Int32) : Option (Int32) :=
  bd1 (md_X8_within (0 : Int32) p0 (5 : Int32)) (fun r1 => (if r1 = 0 ∨ r1 = 1 then some (r1) else none))
def md_X8_refuseAsBad (c0 : Nat → Nat → Int32) (w0 : Nat → Nat → Int64) (p1 : Int32) : Option (Int32 × (Nat → Nat → Int32)) :=
  some (p1, (rs c0 5 (upd (c0 5) 0 (((c0 5) 0) + (1 : Int32)))))
def jd_X8_suit_14 (w0 : Nat → Nat → Int64) (w1 : Nat → Nat → Int64) (c0 : Nat → Nat → Int32) (c1 : Nat → Nat → Int32) (c2 : Nat → Nat → Int32) : Option (Int32 × (Nat → Nat → Int32) × (Nat → Nat → Int32) × (Nat → Nat → Int32)) :=
  bd2 (md_X8_refuseAsBad c0 w0 (-2 : Int32)) (fun r1 cv2 => some (r1, cv2, c1, c2))
def md_X8_suit (c0 : Nat → Nat → Int32) (w0 : Nat → Nat → Int64) (c1 : Nat → Nat → Int32) (w1 : Nat → Nat → Int64) (c2 : Nat → Nat → Int32) (p1 : Int32) (p2 : Int32) : Option (Int32 × (Nat → Nat → Int32) × (Nat → Nat → Int32) × (Nat → Nat → Int32)) :=
  bd1 (md_X8_isKind p1) (fun r11 => (if r11 = 0 then jd_X8_suit_14 w0 w1 c0 c1 c2 else bd1 (md_X8_isKind p2) (fun r14 => (if r14 = 0 then jd_X8_suit_14 w0 w1 c0 c1 c2 else bd2 (md_X1_begin c1 w1 c2 p1 p2) (fun cv17 cv18 => some ((c2 5 0), c0, cv17, cv18))))))
def jd_X8_bows_16 (w0 : Nat → Nat → Int64) (w1 : Nat → Nat → Int64) (c0 : Nat → Nat → Int32) (c1 : Nat → Nat → Int32) (c2 : Nat → Nat → Int32) : Option (Int32 × (Nat → Nat → Int32) × (Nat → Nat → Int32) × (Nat → Nat → Int32)) :=
  bd2 (md_X8_refuseAsBad c0 w0 (-2 : Int32)) (fun r1 cv2 => some (r1, cv2, c1, c2))
def md_X8_bows (c0 : Nat → Nat → Int32) (w0 : Nat → Nat → Int64) (c1 : Nat → Nat → Int32) (w1 : Nat → Nat → Int64) (c2 : Nat → Nat → Int32) (p1 : Int32) (p2 : Int32) : Option (Int32 × (Nat → Nat → Int32) × (Nat → Nat → Int32) × (Nat → Nat → Int32)) :=
  bd1 (md_X8_isCounsel p1) (fun r11 => (if r11 = 0 then jd_X8_bows_16 w0 w1 c0 c1 c2 else bd1 (md_X8_within (0 : Int32) p2 (3 : Int32)) (fun r14 => (if r14 = 0 then jd_X8_bows_16 w0 w1 c0 c1 c2 else (if inb p1 2 then (if inb p1 2 then bd1 (md_X1_dropPast c1 w1) (fun cv19 => some (((c2 1) (ix p1)), c0, cv19, (rs c2 1 (upd (c2 1) (ix p1) p2)))) else none) else none)))))
def md_X8_refuseAsFull (c0 : Nat → Nat → Int32) (w0 : Nat → Nat → Int64) : Option (Int32 × (Nat → Nat → Int32)) :=
  some ((-4 : Int32), (rs c0 5 (upd (c0 5) 2 (((c0 5) 2) + (1 : Int32)))))
def jd_X8_point_26 (w0 : Nat → Nat → Int64) (w1 : Nat → Nat → Int64) (c0 : Nat → Nat → Int32) (c1 : Nat → Nat → Int32) (c2 : Nat → Nat → Int32) : Option (Int32 × (Nat → Nat → Int32) × (Nat → Nat → Int32) × (Nat → Nat → Int32)) :=
  bd2 (md_X8_refuseAsBad c0 w0 (-2 : Int32)) (fun r1 cv2 => some (r1, cv2, c1, c2))
def md_X8_point (c0 : Nat → Nat → Int32) (w0 : Nat → Nat → Int64) (c1 : Nat → Nat → Int32) (w1 : Nat → Nat → Int64) (c2 : Nat → Nat → Int32) (p1 : Int32) (p2 : Int32) (p3 : Int32) : Option (Int32 × (Nat → Nat → Int32) × (Nat → Nat → Int32) × (Nat → Nat → Int32)) :=
  bd1 (md_X8_isKind p1) (fun r11 => (if r11 = 0 then jd_X8_point_26 w0 w1 c0 c1 c2 else bd1 (md_X8_within (1 : Int32) p2 (9 : Int32)) (fun r14 => (if r14 = 0 then jd_X8_point_26 w0 w1 c0 c1 c2 else bd1 (md_X8_within (0 : Int32) p3 (3 : Int32)) (fun r17 => (if r17 = 0 then jd_X8_point_26 w0 w1 c0 c1 c2 else bd1 (md_X3_hasRoom c2) (fun r20 => (if r20 = 0 then bd2 (md_X8_refuseAsFull c0 w0) (fun r34 cv35 => some (r34, cv35, c1, c2)) else bd1 (md_X3_add c2 p1 p2 p3) (fun cv23 => bd1 (md_X1_dropPast c1 w1) (fun cv25 => some ((c2 5 0), c0, cv25, cv23)))))))))))
def md_X8_type (c0 : Nat → Nat → Int32) (w0 : Nat → Nat → Int64) (c2 : Nat → Nat → Int32) (p1 : Int32) : Option (Int32 × (Nat → Nat → Int32) × (Nat → Nat → Int32)) :=
  bd1 (md_X8_within (0 : Int32) p1 (127 : Int32)) (fun r1 => (if r1 = 0 then bd2 (md_X8_refuseAsBad c0 w0 (-2 : Int32)) (fun r20 cv21 => some (r20, cv21, c2)) else (if (c2 1 0) < (150 : Int32) then bd1 (md_X7_append c2 p1) (fun cv5 => some ((cv5 1 0), c0, cv5)) else bd2 (md_X8_refuseAsFull c0 w0) (fun r12 cv13 => some (r12, cv13, c2)))))
def md_X8_clear (c0 : Nat → Nat → Int32) (w0 : Nat → Nat → Int64) (c2 : Nat → Nat → Int32) : Option (Int32 × (Nat → Nat → Int32)) :=
  some ((c2 1 0), (rs c2 1 (fun _ => (0 : Int32))))
def md_X8_read (F : Nat) (c0 : Nat → Nat → Int32) (w0 : Nat → Nat → Int64) (c1 : Nat → Nat → Int32) (w1 : Nat → Nat → Int64) (c2 : Nat → Nat → Int32) (c4 : Nat → Nat → Int32) (c5 : Nat → Nat → Int32) : Option (Int32 × (Nat → Nat → Int32) × (Nat → Nat → Int32) × (Nat → Nat → Int32) × (Nat → Nat → Int32)) :=
  bd3 (md_X2_readAll F c4 c5) (fun r1 cv2 cv3 => (if r1 = (-1 : Int32) then some (((-10 : Int32) - (cv3 3 0)), c1, c2, cv2, cv3) else bd2 (md_X1_begin c1 w1 c2 (0 : Int32) (0 : Int32)) (fun cv6 cv7 => bd1 (md_X3_copy F cv2 cv7) (fun cv9 => some (r1, cv6, cv9, cv2, cv3)))))
def md_X8_refuseAsNo (c0 : Nat → Nat → Int32) (w0 : Nat → Nat → Int64) (p1 : Int32) : Option (Int32 × (Nat → Nat → Int32)) :=
  some (p1, (rs c0 5 (upd (c0 5) 1 (((c0 5) 1) + (1 : Int32)))))
def md_X8_says (F : Nat) (c0 : Nat → Nat → Int32) (w0 : Nat → Nat → Int64) (c1 : Nat → Nat → Int32) (w1 : Nat → Nat → Int64) (c2 : Nat → Nat → Int32) (p1 : Int32) : Option (Int32 × (Nat → Nat → Int32) × (Nat → Nat → Int32) × (Nat → Nat → Int64) × (Nat → Nat → Int32)) :=
  bd1 (md_X3_hasPoint c2 p1) (fun r1 => (if r1 = 0 then bd2 (md_X8_refuseAsBad c0 w0 (-1000 : Int32)) (fun r33 cv34 => some (r33, cv34, c1, w1, c2)) else bd1 (md_X8_has (c2 6 0) p1) (fun r4 => (if r4 = 0 then bd2 (md_X1_remember F c1 w1 c2) (fun cv7 wv8 => bd1 (md_X3_speak c2 p1) (fun cv10 => some ((cv10 7 0), c0, cv7, wv8, cv10))) else bd2 (md_X8_refuseAsNo c0 w0 (-1001 : Int32)) (fun r21 cv22 => some (r21, cv22, c1, w1, c2))))))
def md_X8_objects (F : Nat) (c0 : Nat → Nat → Int32) (w0 : Nat → Nat → Int64) (c1 : Nat → Nat → Int32) (w1 : Nat → Nat → Int64) (c2 : Nat → Nat → Int32) : Option (Int32 × (Nat → Nat → Int32) × (Nat → Nat → Int32) × (Nat → Nat → Int64) × (Nat → Nat → Int32)) :=
  bd1 (md_X3_mayObject c2) (fun r1 => (if r1 = 0 then bd2 (md_X8_refuseAsNo c0 w0 (-3 : Int32)) (fun r18 cv19 => some (r18, cv19, c1, w1, c2)) else bd2 (md_X1_remember F c1 w1 c2) (fun cv4 wv5 => bd1 (md_X3_bow c2) (fun cv7 => some ((cv7 8 0), c0, cv4, wv5, cv7)))))
def md_X8_undo (F : Nat) (c0 : Nat → Nat → Int32) (w0 : Nat → Nat → Int64) (c1 : Nat → Nat → Int32) (w1 : Nat → Nat → Int64) (c2 : Nat → Nat → Int32) : Option (Int32 × (Nat → Nat → Int32) × (Nat → Nat → Int32) × (Nat → Nat → Int32)) :=
  (if (c1 8 0) = 0 then bd2 (md_X8_refuseAsNo c0 w0 (-3 : Int32)) (fun r14 cv15 => some (r14, cv15, c1, c2)) else bd2 (md_X1_goBack F c1 w1 c2) (fun cv2 cv3 => bd1 (md_X3_turn cv3) (fun r5 => some (r5, c0, cv2, cv3))))
def md_X8_now (c0 : Nat → Nat → Int32) (w0 : Nat → Nat → Int64) (c1 : Nat → Nat → Int32) (w1 : Nat → Nat → Int64) (c2 : Nat → Nat → Int32) (p1 : Int32) : Option (Int32 × (Nat → Nat → Int32)) :=
  (if p1 = (0 : Int32) then some ((c2 7 0), c0) else (if p1 = (1 : Int32) then some ((c2 8 0), c0) else (if p1 = (2 : Int32) then bd1 (md_X3_turn c2) (fun r10 => some (r10, c0)) else (if p1 = (3 : Int32) then bd1 (md_X3_speaker c2) (fun r16 => some (r16, c0)) else (if p1 = (4 : Int32) then bd1 (md_X3_mayObject c2) (fun r22 => lt1 (if r22 = 0 then (0 : Int32) else (1 : Int32)) (fun y24 => some (y24, c0))) else (if p1 = (5 : Int32) then bd1 (md_X3_unsaid c2) (fun r32 => (if r32 = 0 then bd1 (md_X3_winner c2) (fun r38 => some (r38, c0)) else some ((-1 : Int32), c0))) else bd2 (md_X8_refuseAsBad c0 w0 (-1000 : Int32)) (fun r43 cv44 => some (r43, cv44))))))))
def md_X8_of (c0 : Nat → Nat → Int32) (w0 : Nat → Nat → Int64) (c1 : Nat → Nat → Int32) (w1 : Nat → Nat → Int64) (c2 : Nat → Nat → Int32) (p1 : Int32) (p2 : Int32) : Option (Int32 × (Nat → Nat → Int32)) :=
  bd1 (md_X3_hasPoint c2 p1) (fun r1 => (if r1 = 0 then bd2 (md_X8_refuseAsBad c0 w0 (-2 : Int32)) (fun r35 cv36 => some (r35, cv36)) else (if p2 = (0 : Int32) then (if inb p1 6 then some (((c2 2) (ix p1)), c0) else none) else (if p2 = (1 : Int32) then (if inb p1 6 then some (((c2 3) (ix p1)), c0) else none) else (if p2 = (2 : Int32) then (if inb p1 6 then some (((c2 4) (ix p1)), c0) else none) else (if p2 = (3 : Int32) then bd1 (md_X8_has (c2 6 0) p1) (fun r20 => lt1 (if r20 = 0 then (0 : Int32) else (1 : Int32)) (fun y22 => some (y22, c0))) else bd2 (md_X8_refuseAsBad c0 w0 (-2 : Int32)) (fun r29 cv30 => some (r29, cv30))))))))
def md_X8_about (c0 : Nat → Nat → Int32) (w0 : Nat → Nat → Int64) (c1 : Nat → Nat → Int32) (w1 : Nat → Nat → Int64) (c2 : Nat → Nat → Int32) (p1 : Int32) (p2 : Int32) : Option (Int32 × (Nat → Nat → Int32)) :=
  bd1 (md_X8_isCounsel p1) (fun r1 => (if r1 = 0 then bd2 (md_X8_refuseAsBad c0 w0 (-2 : Int32)) (fun r26 cv27 => some (r26, cv27)) else (if p2 = (0 : Int32) then (if inb p1 2 then some (((c2 0) (ix p1)), c0) else none) else (if p2 = (1 : Int32) then (if inb p1 2 then some (((c2 1) (ix p1)), c0) else none) else (if p2 = (2 : Int32) then bd1 (md_X3_chairOf c2 p1) (fun r15 => some (r15, c0)) else bd2 (md_X8_refuseAsBad c0 w0 (-2 : Int32)) (fun r20 cv21 => some (r20, cv21)))))))
def md_X8_moves (c0 : Nat → Nat → Int32) (w0 : Nat → Nat → Int64) (c1 : Nat → Nat → Int32) (w1 : Nat → Nat → Int64) (c2 : Nat → Nat → Int32) (p1 : Int32) : Option (Int32 × (Nat → Nat → Int32)) :=
  bd1 (md_X3_hasPoint c2 p1) (fun r1 => (if r1 = 0 then bd2 (md_X8_refuseAsBad c0 w0 (-1000 : Int32)) (fun r18 cv19 => some (r18, cv19)) else bd1 (md_X8_has (c2 6 0) p1) (fun r4 => (if r4 = 0 then bd1 (md_X3_counting c2 p1) (fun r7 => some (r7, c0)) else bd2 (md_X8_refuseAsNo c0 w0 (-1001 : Int32)) (fun r12 cv13 => some (r12, cv13))))))
def md_X8_play (F : Nat) (c0 : Nat → Nat → Int32) (w0 : Nat → Nat → Int64) (c1 : Nat → Nat → Int32) (w1 : Nat → Nat → Int64) (c2 : Nat → Nat → Int32) (c3 : Nat → Nat → Int32) (p1 : Int32) : Option (Int32 × (Nat → Nat → Int32) × (Nat → Nat → Int32)) :=
  bd1 (md_X8_within (0 : Int32) p1 (2 : Int32)) (fun r1 => (if r1 = 0 then bd2 (md_X8_refuseAsBad c0 w0 (-1000 : Int32)) (fun r32 cv33 => some (r32, cv33, c3)) else bd1 (md_X3_copy F c2 c3) (fun cv4 => (if p1 = 0 then bd2 (md_X0_worth 8 (wuD 8) F cv4 (-1000 : Int32) (1000 : Int32) (0 : Int32)) (fun r24 cv25 => some (r24, c0, cv25)) else (if p1 = (1 : Int32) then bd2 (md_X0_whetherToBow F cv4) (fun r16 cv17 => some (r16, c0, cv17)) else bd2 (md_X0_whatToSay F cv4) (fun r8 cv9 => some (r8, c0, cv9)))))))
def md_X8_isChair (p0 : Int32) : Option (Int32) :=
  bd1 (md_X8_within (0 : Int32) p0 (1 : Int32)) (fun r1 => (if r1 = 0 ∨ r1 = 1 then some (r1) else none))
def md_X8_proof (F : Nat) (c0 : Nat → Nat → Int32) (w0 : Nat → Nat → Int64) (c1 : Nat → Nat → Int32) (w1 : Nat → Nat → Int64) (c2 : Nat → Nat → Int32) (c3 : Nat → Nat → Int32) (p1 : Int32) : Option (Int32 × (Nat → Nat → Int32) × (Nat → Nat → Int32)) :=
  bd1 (md_X8_isChair p1) (fun r1 => (if r1 = 0 then bd2 (md_X8_refuseAsBad c0 w0 (-2 : Int32)) (fun r14 cv15 => some (r14, cv15, c3)) else bd1 (md_X3_copy F c2 c3) (fun cv4 => bd2 (md_X4_proofFor F cv4 p1) (fun r6 cv7 => some (r6, c0, cv7)))))
def md_X8_ends (c0 : Nat → Nat → Int32) (w0 : Nat → Nat → Int64) (c1 : Nat → Nat → Int32) (w1 : Nat → Nat → Int64) (p1 : Int32) : Option (Int32 × (Nat → Nat → Int32) × (Nat → Nat → Int32)) :=
  bd1 (md_X8_within (-99 : Int32) p1 (99 : Int32)) (fun r1 => (if r1 = 0 then bd2 (md_X8_refuseAsBad c0 w0 (-2 : Int32)) (fun r19 cv20 => some (r19, cv20, c1)) else (if (c1 2 0) < (4 : Int32) then (if inb (c1 2 0) 4 then some (((c1 2 0) + (1 : Int32)), c0, (rs (rs c1 1 (upd (c1 1) (ix (c1 2 0)) p1)) 2 (fun _ => ((c1 2 0) + (1 : Int32))))) else none) else bd2 (md_X8_refuseAsFull c0 w0) (fun r11 cv12 => some (r11, cv12, c1)))))
def ld_X8_bowed_41 (F : Nat) (w0 : Nat → Nat → Int64) (c1 : Nat → Nat → Int32) (w1 : Nat → Nat → Int64) (c2 : Nat → Nat → Int32) : Nat → (Nat → Nat → Int32) → (Nat → Nat → Int32) → (Int32) → (Int32) → (Int32) → (Int32) → (Int32) → (Int32) → Option (Int32 × (Nat → Nat → Int32) × (Nat → Nat → Int32))
  | 0, _, _, _, _, _, _, _, _ => none
  | n + 1, c0, c3, x1, x3, x4, x5, x6, x7 =>
  (if x3 < x7 then (if x1 = 0 then some (x4, c0, c3) else lt1 (if x1 = (2 : Int32) then x6 else (if x4 = 0 then (-1 : Int32) else x5)) (fun y3 => some (y3, c0, c3))) else (if (x7 &&& (x3 ^^^ (-1 : Int32))) = 0 then bd1 (md_X3_copy F c2 c3) (fun cv19 => bd2 (md_X4_bowsTo F cv19 x7) (fun r21 cv22 => (if r21 = 0 then (ld_X8_bowed_41 F w0 c1 w1 c2 n) c0 cv22 x1 x3 x4 x5 x6 (x7 + (1 : Int32)) else bd1 (md_X1_allEndsAre F c1 w1 (cv22 7 0)) (fun r25 => (if r25 = 0 then (ld_X8_bowed_41 F w0 c1 w1 c2 n) c0 cv22 x1 x3 x4 x5 x6 (x7 + (1 : Int32)) else (ld_X8_bowed_41 F w0 c1 w1 c2 n) c0 cv22 x1 x3 (x4 + (1 : Int32)) (x5 &&& x7) (x6 ||| x7) (x7 + (1 : Int32))))))) else (ld_X8_bowed_41 F w0 c1 w1 c2 n) c0 c3 x1 x3 x4 x5 x6 (x7 + (1 : Int32))))
def md_X8_bowed (F : Nat) (c0 : Nat → Nat → Int32) (w0 : Nat → Nat → Int64) (c1 : Nat → Nat → Int32) (w1 : Nat → Nat → Int64) (c2 : Nat → Nat → Int32) (c3 : Nat → Nat → Int32) (p1 : Int32) : Option (Int32 × (Nat → Nat → Int32) × (Nat → Nat → Int32)) :=
  bd1 (md_X8_within (0 : Int32) p1 (2 : Int32)) (fun r28 => (if r28 = 0 then bd2 (md_X8_refuseAsBad c0 w0 (-2 : Int32)) (fun r33 cv34 => some (r33, cv34, c3)) else bd1 (md_X3_unsaid c2) (fun r31 => ld_X8_bowed_41 F w0 c1 w1 c2 F c0 c3 p1 r31 (0 : Int32) r31 (0 : Int32) (0 : Int32))))
def jd_X8_note_57 (w0 : Nat → Nat → Int64) (w1 : Nat → Nat → Int64) (c2 : Nat → Nat → Int32) (c0 : Nat → Nat → Int32) (c1 : Nat → Nat → Int32) : Option (Int32 × (Nat → Nat → Int32) × (Nat → Nat → Int32)) :=
  bd2 (md_X8_refuseAsBad c0 w0 (-2 : Int32)) (fun r1 cv2 => some (r1, cv2, c1))
def md_X8_note (c0 : Nat → Nat → Int32) (w0 : Nat → Nat → Int64) (c1 : Nat → Nat → Int32) (w1 : Nat → Nat → Int64) (c2 : Nat → Nat → Int32) (p1 : Int32) (p2 : Int32) (p3 : Int32) (p4 : Int32) (p5 : Int32) : Option (Int32 × (Nat → Nat → Int32) × (Nat → Nat → Int32)) :=
  bd1 (md_X3_hasPoint c2 p1) (fun r9 => (if r9 = 0 then jd_X8_note_57 w0 w1 c2 c0 c1 else bd1 (md_X8_within (1 : Int32) p2 (9 : Int32)) (fun r12 => (if r12 = 0 then jd_X8_note_57 w0 w1 c2 c0 c1 else bd1 (md_X8_within (-99 : Int32) p3 (99 : Int32)) (fun r15 => (if r15 = 0 then jd_X8_note_57 w0 w1 c2 c0 c1 else bd1 (md_X8_within (0 : Int32) p4 (9 : Int32)) (fun r18 => (if r18 = 0 then jd_X8_note_57 w0 w1 c2 c0 c1 else bd1 (md_X8_within (0 : Int32) p5 (40 : Int32)) (fun r21 => (if r21 = 0 then jd_X8_note_57 w0 w1 c2 c0 c1 else (if (c1 4 0) < (6 : Int32) then bd1 (md_X1_addNote c1 w1 p1 p2 p3 p4 p5) (fun cv25 => some ((cv25 4 0), c0, cv25)) else bd2 (md_X8_refuseAsFull c0 w0) (fun r32 cv33 => some (r32, cv33, c1)))))))))))))
def jd_X8_mark_36 (w0 : Nat → Nat → Int64) (w1 : Nat → Nat → Int64) (c0 : Nat → Nat → Int32) (c1 : Nat → Nat → Int32) : Option (Int32 × (Nat → Nat → Int32) × (Nat → Nat → Int32)) :=
  bd2 (md_X8_refuseAsBad c0 w0 (-2 : Int32)) (fun r1 cv2 => some (r1, cv2, c1))
def md_X8_mark (c0 : Nat → Nat → Int32) (w0 : Nat → Nat → Int64) (c1 : Nat → Nat → Int32) (w1 : Nat → Nat → Int64) (p1 : Int32) (p2 : Int32) (p3 : Int32) (p4 : Int32) : Option (Int32 × (Nat → Nat → Int32) × (Nat → Nat → Int32)) :=
  bd1 (md_X8_isCounsel p1) (fun r9 => (if r9 = 0 then jd_X8_mark_36 w0 w1 c0 c1 else bd1 (md_X8_within (0 : Int32) p2 (40 : Int32)) (fun r12 => (if r12 = 0 then jd_X8_mark_36 w0 w1 c0 c1 else bd1 (md_X8_isChair p3) (fun r15 => (if r15 = 0 then jd_X8_mark_36 w0 w1 c0 c1 else bd1 (md_X8_within (-50 : Int32) p4 (50 : Int32)) (fun r18 => (if r18 = 0 then jd_X8_mark_36 w0 w1 c0 c1 else (if (c1 6 0) < (6 : Int32) then bd1 (md_X1_addMark c1 w1 p1 p2 p3 p4) (fun cv22 => some ((cv22 6 0), c0, cv22)) else bd2 (md_X8_refuseAsFull c0 w0) (fun r29 cv30 => some (r29, cv30, c1)))))))))))
def md_X8_forget (c0 : Nat → Nat → Int32) (w0 : Nat → Nat → Int64) (c1 : Nat → Nat → Int32) (w1 : Nat → Nat → Int64) (p1 : Int32) : Option (Int32 × (Nat → Nat → Int32) × (Nat → Nat → Int32)) :=
  (if p1 = (0 : Int32) then some ((c1 2 0), c0, (rs c1 2 (fun _ => (0 : Int32)))) else (if p1 = (1 : Int32) then some ((c1 4 0), c0, (rs c1 4 (fun _ => (0 : Int32)))) else (if p1 = (2 : Int32) then some ((c1 6 0), c0, (rs c1 6 (fun _ => (0 : Int32)))) else bd2 (md_X8_refuseAsBad c0 w0 (-2 : Int32)) (fun r19 cv20 => some (r19, cv20, c1)))))
def md_X8_is (F : Nat) (c0 : Nat → Nat → Int32) (w0 : Nat → Nat → Int64) (c1 : Nat → Nat → Int32) (w1 : Nat → Nat → Int64) (c2 : Nat → Nat → Int32) (p1 : Int32) : Option (Int32 × (Nat → Nat → Int32)) :=
  bd1 (md_X3_hasPoint c2 p1) (fun r1 => (if r1 = 0 then bd2 (md_X8_refuseAsBad c0 w0 (-2 : Int32)) (fun r9 cv10 => some (r9, cv10)) else bd1 (md_X1_pointKindsThatFit F c1 w1 p1) (fun r4 => some (r4, c0))))
def md_X8_look (F : Nat) (c0 : Nat → Nat → Int32) (w0 : Nat → Nat → Int64) (c1 : Nat → Nat → Int32) (w1 : Nat → Nat → Int64) (c2 : Nat → Nat → Int32) (p1 : Int32) : Option (Int32 × (Nat → Nat → Int32)) :=
  bd1 (md_X3_hasPoint c2 p1) (fun r1 => (if r1 = 0 then bd2 (md_X8_refuseAsBad c0 w0 (-2 : Int32)) (fun r12 cv13 => some (r12, cv13)) else bd1 (md_X1_pointKindsThatFit F c1 w1 p1) (fun r4 => (if inb p1 6 then bd1 (md_X5_bestLook F r4 ((c2 3) (ix p1))) (fun r7 => some (r7, c0)) else none))))
def md_X8_kinds (F : Nat) (c0 : Nat → Nat → Int32) (w0 : Nat → Nat → Int64) (c1 : Nat → Nat → Int32) (w1 : Nat → Nat → Int64) (p1 : Int32) : Option (Int32 × (Nat → Nat → Int32)) :=
  bd1 (md_X8_isCounsel p1) (fun r1 => (if r1 = 0 then bd2 (md_X8_refuseAsBad c0 w0 (-2 : Int32)) (fun r9 cv10 => some (r9, cv10)) else bd1 (md_X1_counselKindsThatFit F c1 w1 p1) (fun r4 => some (r4, c0))))
def md_X8_ask (F : Nat) (c0 : Nat → Nat → Int32) (w0 : Nat → Nat → Int64) (c1 : Nat → Nat → Int32) (w1 : Nat → Nat → Int64) (p1 : Int32) : Option (Int32 × (Nat → Nat → Int32)) :=
  bd1 (md_X8_isCounsel p1) (fun r1 => (if r1 = 0 then bd2 (md_X8_refuseAsBad c0 w0 (-2 : Int32)) (fun r11 cv12 => some (r11, cv12)) else bd1 (md_X1_counselKindsThatFit F c1 w1 p1) (fun r4 => bd1 (md_X5_bestQuestion F r4) (fun r6 => some (r6, c0)))))
def ld_X8_settle_46 (F : Nat) (w0 : Nat → Nat → Int64) (c1 : Nat → Nat → Int32) (w1 : Nat → Nat → Int64) (c2 : Nat → Nat → Int32) : Nat → (Nat → Nat → Int32) → (Nat → Nat → Int32) → (Int32) → (Int32) → (Int32) → (Int32) → Option (Int32 × (Nat → Nat → Int32) × (Nat → Nat → Int32))
  | 0, _, _, _, _, _, _ => none
  | n + 1, c0, c3, x1, x2, x3, x4 =>
  (if (100 : Int32) ≤ x4 then lt1 (if x1 = (-1 : Int32) then x3 else (-5 : Int32)) (fun y2 => some (y2, c0, c3)) else bd1 (md_X6_rests F (x4 / (10 : Int32)) (x4 - x4 / (10 : Int32) * (10 : Int32)) x2) (fun r11 => (if r11 = 0 then (ld_X8_settle_46 F w0 c1 w1 c2 n) c0 c3 x1 x2 x3 (x4 + (1 : Int32)) else (if x3 = x1 then some (x4, c0, c3) else (ld_X8_settle_46 F w0 c1 w1 c2 n) c0 c3 x1 x2 (x3 + (1 : Int32)) (x4 + (1 : Int32))))))
def md_X8_settle (F : Nat) (c0 : Nat → Nat → Int32) (w0 : Nat → Nat → Int64) (c1 : Nat → Nat → Int32) (w1 : Nat → Nat → Int64) (c2 : Nat → Nat → Int32) (c3 : Nat → Nat → Int32) (p1 : Int32) : Option (Int32 × (Nat → Nat → Int32) × (Nat → Nat → Int32)) :=
  (if (-1 : Int32) ≤ p1 then bd1 (md_X3_copy F c2 c3) (fun cv21 => bd2 (md_X0_worth 8 (wuD 8) F cv21 (-1000 : Int32) (1000 : Int32) (0 : Int32)) (fun r23 cv24 => ld_X8_settle_46 F w0 c1 w1 c2 F c0 cv24 p1 r23 (0 : Int32) (0 : Int32))) else bd2 (md_X8_refuseAsBad c0 w0 (-10 : Int32)) (fun r26 cv27 => some (r26, cv27, c3)))
def jd_X8_keepFraction_45 (F : Nat) (c0 : Nat → Nat → Int32) (w0 : Nat → Nat → Int64) (x1 : Int64) (x3 : Int64) (x5 : Int64) : Option ((Nat → Nat → Int64)) :=
  (if (lg_cmp x5 (0 : Int64)) ≤ 0 then some (w0) else (if ¬ x5 = 0 then (if ¬ x5 = 0 then some ((rs (rs w0 6 (fun _ => (x1 / x5))) 7 (fun _ => (x3 / x5)))) else none) else none))
def ld_X8_keepFraction_9 (F : Nat) (c0 : Nat → Nat → Int32) : Nat → (Nat → Nat → Int64) → (Int64) → (Int64) → (Int64) → (Int64) → (Int32) → Option ((Nat → Nat → Int64))
  | 0, _, _, _, _, _, _ => none
  | n + 1, w0, x1, x3, x5, x7, x9 =>
  (if (128 : Int32) ≤ x9 then jd_X8_keepFraction_45 F c0 w0 x1 x3 x5 else (if (lg_cmp x7 (0 : Int64)) = 0 then jd_X8_keepFraction_45 F c0 w0 x1 x3 x5 else (if ¬ x7 = 0 then (ld_X8_keepFraction_9 F c0 n) w0 x1 x3 x7 (x5 - x5 / x7 * x7) (x9 + (1 : Int32)) else none)))
def md_X8_keepFraction (F : Nat) (c0 : Nat → Nat → Int32) (w0 : Nat → Nat → Int64) (p1 : Int64) (p3 : Int64) : Option ((Nat → Nat → Int64)) :=
  ld_X8_keepFraction_9 F c0 F w0 p1 p3 p1 p3 (0 : Int32)
def ld_X8_hearings_107 (F : Nat) (c1 : Nat → Nat → Int32) (w1 : Nat → Nat → Int64) (c2 : Nat → Nat → Int32) : Nat → (Nat → Nat → Int32) → (Nat → Nat → Int64) → (Nat → Nat → Int32) → (Int64) → (Int64) → (Int32) → Option (Int32 × (Nat → Nat → Int32) × (Nat → Nat → Int64) × (Nat → Nat → Int32))
  | 0, _, _, _, _, _, _ => none
  | n + 1, c0, w0, c3, x4, x6, x8 =>
  (if x8 ≤ 0 then bd1 (md_X8_keepFraction F c0 w0 x4 x6) (fun wv2 => some ((1 : Int32), c0, wv2, c3)) else (ld_X8_hearings_107 F c1 w1 c2 n) c0 w0 c3 x4 (x6 * (10 : Int64)) (x8 + (-1 : Int32)))
def ld_X8_hearings_36 (F : Nat) (c1 : Nat → Nat → Int32) (w1 : Nat → Nat → Int64) (c2 : Nat → Nat → Int32) : Nat → (Nat → Nat → Int32) → (Nat → Nat → Int64) → (Nat → Nat → Int32) → (Int32) → (Int32) → (Int64) → (Int32) → Option (Int32 × (Nat → Nat → Int32) × (Nat → Nat → Int64) × (Nat → Nat → Int32))
  | 0, _, _, _, _, _, _, _ => none
  | n + 1, c0, w0, c3, x1, x3, x4, x6 =>
  (if x3 < x6 then bd1 (md_J6_bitCount_0f7a4 x3) (fun r12 => ld_X8_hearings_107 F c1 w1 c2 F c0 w0 c3 x4 (1 : Int64) r12) else (if (x6 &&& (x3 ^^^ (-1 : Int32))) = 0 then bd1 (md_X3_copy F c2 c3) (fun cv15 => bd2 (md_X4_weightOf F cv15 x6 x1) (fun r17 cv18 => bd1 (md_X3_counselZeroWins cv18) (fun r20 => lt1 (if r20 = 0 then (0 : Int64) else r17) (fun y22 => (ld_X8_hearings_36 F c1 w1 c2 n) c0 w0 cv18 x1 x3 (x4 + y22) (x6 + (1 : Int32)))))) else (ld_X8_hearings_36 F c1 w1 c2 n) c0 w0 c3 x1 x3 x4 (x6 + (1 : Int32))))
def md_X8_hearings (F : Nat) (c0 : Nat → Nat → Int32) (w0 : Nat → Nat → Int64) (c1 : Nat → Nat → Int32) (w1 : Nat → Nat → Int64) (c2 : Nat → Nat → Int32) (c3 : Nat → Nat → Int32) (p1 : Int32) : Option (Int32 × (Nat → Nat → Int32) × (Nat → Nat → Int64) × (Nat → Nat → Int32)) :=
  bd1 (md_X8_within (0 : Int32) p1 (10 : Int32)) (fun r26 => (if r26 = 0 then bd2 (md_X8_refuseAsBad c0 w0 (-2 : Int32)) (fun r31 cv32 => some (r31, cv32, w0, c3)) else bd1 (md_X3_unsaid c2) (fun r29 => ld_X8_hearings_36 F c1 w1 c2 F c0 w0 c3 p1 r29 (0 : Int64) (0 : Int32))))
def ld_X8_days_37 (F : Nat) (w0 : Nat → Nat → Int64) (c1 : Nat → Nat → Int32) (w1 : Nat → Nat → Int64) (c2 : Nat → Nat → Int32) : Nat → (Nat → Nat → Int32) → (Nat → Nat → Int32) → (Int32) → (Int64) → (Int32) → (Int32) → Option (Int32 × (Nat → Nat → Int32) × (Nat → Nat → Int32))
  | 0, _, _, _, _, _, _ => none
  | n + 1, c0, c3, x2, x3, x5, x6 =>
  (if x2 ≤ x6 then some (x5, c0, c3) else bd1 (md_X3_copy F c2 c3) (fun cv7 => bd2 (md_X4_dayBy F cv7 x3) (fun r9 cv10 => bd1 (md_X3_counselZeroWins cv10) (fun r12 => lt1 (if r12 = 0 then (0 : Int32) else (1 : Int32)) (fun y14 => (ld_X8_days_37 F w0 c1 w1 c2 n) c0 cv10 x2 r9 (x5 + y14) (x6 + (1 : Int32)))))))
def jd_X8_days_21 (F : Nat) (w0 : Nat → Nat → Int64) (c1 : Nat → Nat → Int32) (w1 : Nat → Nat → Int64) (c2 : Nat → Nat → Int32) (c0 : Nat → Nat → Int32) (c3 : Nat → Nat → Int32) : Option (Int32 × (Nat → Nat → Int32) × (Nat → Nat → Int32)) :=
  bd2 (md_X8_refuseAsBad c0 w0 (-2 : Int32)) (fun r18 cv19 => some (r18, cv19, c3))
def md_X8_days (F : Nat) (c0 : Nat → Nat → Int32) (w0 : Nat → Nat → Int64) (c1 : Nat → Nat → Int32) (w1 : Nat → Nat → Int64) (c2 : Nat → Nat → Int32) (c3 : Nat → Nat → Int32) (p1 : Int32) (p2 : Int32) : Option (Int32 × (Nat → Nat → Int32) × (Nat → Nat → Int32)) :=
  bd1 (md_X8_within (0 : Int32) p1 (999999 : Int32)) (fun r26 => (if r26 = 0 then jd_X8_days_21 F w0 c1 w1 c2 c0 c3 else bd1 (md_X8_within (0 : Int32) p2 (60 : Int32)) (fun r29 => (if r29 = 0 then jd_X8_days_21 F w0 c1 w1 c2 c0 c3 else ld_X8_days_37 F w0 c1 w1 c2 F c0 c3 p2 p1.toInt64 (0 : Int32) (0 : Int32)))))
def md_X8_part (c0 : Nat → Nat → Int32) (w0 : Nat → Nat → Int64) (p1 : Int32) : Option (Int64 × (Nat → Nat → Int32)) :=
  bd1 (md_X8_within (0 : Int32) p1 (1 : Int32)) (fun r1 => (if r1 = 0 then bd2 (md_X8_refuseAsBad c0 w0 (-2 : Int32)) (fun r11 cv12 => some (r11.toInt64, cv12)) else lt1 (if p1 = 0 then (w0 6 0) else (w0 7 0)) (fun y4 => some (y4, c0))))
def md_X8_image (F : Nat) (c0 : Nat → Nat → Int32) (w0 : Nat → Nat → Int64) (c1 : Nat → Nat → Int32) (w1 : Nat → Nat → Int64) (c2 : Nat → Nat → Int32) (c3 : Nat → Nat → Int32) (w3 : Nat → Nat → Int64) (c4 : Nat → Nat → Int32) (c5 : Nat → Nat → Int32) (w5 : Nat → Nat → Int64) (c6 : Nat → Nat → Int32) (p1 : Int32) : Option (Int32 × (Nat → Nat → Int32) × (Nat → Nat → Int32) × (Nat → Nat → Int64) × (Nat → Nat → Int32) × (Nat → Nat → Int32) × (Nat → Nat → Int64) × (Nat → Nat → Int32)) :=
  bd1 (md_X8_within (0 : Int32) p1 (1 : Int32)) (fun r1 => (if r1 = 0 then bd2 (md_X8_refuseAsBad c0 w0 (-2 : Int32)) (fun r46 cv47 => some (r46, cv47, c3, w3, c4, c5, w5, c6)) else (if inb p1 2 then (if p1 = 0 then bd3 (md_X1_copyAll F c1 w1 c2 c3 w3 c4) (fun cv6 wv7 cv8 => (if inb p1 2 then some ((1 : Int32), (rs c0 2 (upd (c0 2) (ix p1) (1 : Int32))), cv6, wv7, cv8, c5, w5, c6) else none)) else bd3 (md_X1_copyAll F c1 w1 c2 c5 w5 c6) (fun cv26 wv27 cv28 => (if inb p1 2 then some ((1 : Int32), (rs c0 2 (upd (c0 2) (ix p1) (1 : Int32))), c3, w3, c4, cv26, wv27, cv28) else none))) else none)))
def md_X8_from (F : Nat) (c0 : Nat → Nat → Int32) (w0 : Nat → Nat → Int64) (c1 : Nat → Nat → Int32) (w1 : Nat → Nat → Int64) (c2 : Nat → Nat → Int32) (c3 : Nat → Nat → Int32) (w3 : Nat → Nat → Int64) (c4 : Nat → Nat → Int32) (c5 : Nat → Nat → Int32) (w5 : Nat → Nat → Int64) (c6 : Nat → Nat → Int32) (p1 : Int32) : Option (Int32 × (Nat → Nat → Int32) × (Nat → Nat → Int32) × (Nat → Nat → Int64) × (Nat → Nat → Int32)) :=
  bd1 (md_X8_within (0 : Int32) p1 (1 : Int32)) (fun r1 => (if r1 = 0 then bd2 (md_X8_refuseAsBad c0 w0 (-2 : Int32)) (fun r46 cv47 => some (r46, cv47, c1, w1, c2)) else (if inb p1 2 then (if ((c0 2) (ix p1)) = 0 then bd2 (md_X8_refuseAsNo c0 w0 (-3 : Int32)) (fun r34 cv35 => some (r34, cv35, c1, w1, c2)) else (if inb p1 2 then (if p1 = 0 then bd3 (md_X1_copyAll F c3 w3 c4 c1 w1 c2) (fun cv8 wv9 cv10 => some ((1 : Int32), c0, cv8, wv9, cv10)) else bd3 (md_X1_copyAll F c5 w5 c6 c1 w1 c2) (fun cv21 wv22 cv23 => some ((1 : Int32), c0, cv21, wv22, cv23))) else none)) else none)))
def md_X8_status (c0 : Nat → Nat → Int32) (w0 : Nat → Nat → Int64) (p1 : Int32) : Option (Int32 × (Nat → Nat → Int32)) :=
  bd1 (md_X8_within (0 : Int32) p1 (2 : Int32)) (fun r1 => (if r1 = 0 then bd2 (md_X8_refuseAsBad c0 w0 (-1 : Int32)) (fun r8 cv9 => some (r8, cv9)) else (if inb p1 3 then some (((c0 5) (ix p1)), c0) else none)))
def md_X8_count (F : Nat) (c0 : Nat → Nat → Int32) (w0 : Nat → Nat → Int64) (c1 : Nat → Nat → Int32) (w1 : Nat → Nat → Int64) (c2 : Nat → Nat → Int32) (c4 : Nat → Nat → Int32) (p1 : Int32) : Option (Int32 × (Nat → Nat → Int32)) :=
  (if p1 = (0 : Int32) then some ((c2 5 0), c0) else (if p1 = (1 : Int32) then bd1 (md_X3_turn c2) (fun r6 => some (r6, c0)) else (if p1 = (2 : Int32) then bd1 (md_X3_allGroundsLeft F c2) (fun r12 => some (r12, c0)) else (if p1 = (3 : Int32) then some ((c1 2 0), c0) else (if p1 = (4 : Int32) then some ((c1 4 0), c0) else (if p1 = (5 : Int32) then some ((c1 6 0), c0) else (if p1 = (6 : Int32) then some ((c1 8 0), c0) else (if p1 = (7 : Int32) then some ((c4 1 0), c0) else bd2 (md_X8_refuseAsBad c0 w0 (-2 : Int32)) (fun r37 cv38 => some (r37, cv38))))))))))
def ld_X8_digest_33 (F : Nat) (w0 : Nat → Nat → Int64) (c1 : Nat → Nat → Int32) (w1 : Nat → Nat → Int64) (c2 : Nat → Nat → Int32) (c4 : Nat → Nat → Int32) : Nat → (Nat → Nat → Int32) → (Int64) → (Int32) → Option (Int64 × (Nat → Nat → Int32))
  | 0, _, _, _ => none
  | n + 1, c0, x1, x3 =>
  (if (4 : Int32) < x3 then bd1 (md_X3_digestOn F c2 x1) (fun r2 => bd1 (md_X1_digestOn F c1 w1 r2) (fun r4 => lt1 (((31 : Int64) * r4) + (w0 6 0)) (fun y6 => some ((((31 : Int64) * y6) + (w0 7 0)), c0)))) else bd2 (md_X8_now c0 w0 c1 w1 c2 x3) (fun r11 cv12 => lt1 (((31 : Int64) * x1) + r11.toInt64) (fun y14 => (ld_X8_digest_33 F w0 c1 w1 c2 c4 n) cv12 y14 (x3 + (1 : Int32)))))
def ld_X8_digest_6 (F : Nat) (w0 : Nat → Nat → Int64) (c1 : Nat → Nat → Int32) (w1 : Nat → Nat → Int64) (c2 : Nat → Nat → Int32) (c4 : Nat → Nat → Int32) : Nat → (Nat → Nat → Int32) → (Int64) → (Int32) → Option (Int64 × (Nat → Nat → Int32))
  | 0, _, _, _ => none
  | n + 1, c0, x1, x3 =>
  (if (7 : Int32) < x3 then ld_X8_digest_33 F w0 c1 w1 c2 c4 F c0 x1 (0 : Int32) else bd2 (md_X8_count F c0 w0 c1 w1 c2 c4 x3) (fun r17 cv18 => lt1 (((31 : Int64) * x1) + r17.toInt64) (fun y20 => (ld_X8_digest_6 F w0 c1 w1 c2 c4 n) cv18 y20 (x3 + (1 : Int32)))))
def md_X8_digest (F : Nat) (c0 : Nat → Nat → Int32) (w0 : Nat → Nat → Int64) (c1 : Nat → Nat → Int32) (w1 : Nat → Nat → Int64) (c2 : Nat → Nat → Int32) (c4 : Nat → Nat → Int32) : Option (Int64 × (Nat → Nat → Int32)) :=
  ld_X8_digest_6 F w0 c1 w1 c2 c4 F c0 (1597 : Int64) (0 : Int32)
def md_X9_in (p0 : Int64) (p2 : Int64) (p4 : Int64) : Option (Int32) :=
  lt1 (if (lg_cmp p0 p2) < 0 then (0 : Int32) else (if 0 < (lg_cmp p0 p4) then (0 : Int32) else (1 : Int32))) (fun y1 => (if y1 = 0 ∨ y1 = 1 then some (y1) else none))
def md_X9_bad (c0 : Nat → Nat → Int32) (w0 : Nat → Nat → Int64) (p1 : Int32) : Option (Int32 × (Nat → Nat → Int32)) :=
  some (p1, (rs c0 3 (upd (c0 3) 0 (((c0 3) 0) + (1 : Int32)))))
def md_X9_no (c0 : Nat → Nat → Int32) (w0 : Nat → Nat → Int64) (p1 : Int32) : Option (Int32 × (Nat → Nat → Int32)) :=
  some (p1, (rs c0 3 (upd (c0 3) 1 (((c0 3) 1) + (1 : Int32)))))
def md_X9_full (c0 : Nat → Nat → Int32) (w0 : Nat → Nat → Int64) : Option (Int32 × (Nat → Nat → Int32)) :=
  some ((-4 : Int32), (rs c0 3 (upd (c0 3) 2 (((c0 3) 2) + (1 : Int32)))))
def ld_X9_bits_4 (F : Nat) : Nat → (Int32) → (Int32) → Option (Int32)
  | 0, _, _ => none
  | n + 1, x1, x2 =>
  (if x2 ≤ 0 then some (x1) else lt1 (x1 + (x2 &&& (1 : Int32))) (fun y3 => lt1 (x2 >>> ((1 : Int32) &&& 31)) (fun y5 => (ld_X9_bits_4 F n) y3 y5)))
def md_X9_bits (F : Nat) (p0 : Int32) : Option (Int32) :=
  ld_X9_bits_4 F F (0 : Int32) p0
def md_X9_has (p0 : Int32) (p1 : Int32) : Option (Int32) :=
  lt1 (if ((p0 >>> (p1 &&& 31)) &&& (1 : Int32)) = (1 : Int32) then (1 : Int32) else (0 : Int32)) (fun y1 => (if y1 = 0 ∨ y1 = 1 then some (y1) else none))
def ld_X9_begin_2 (F : Nat) : Nat → (Nat → Nat → Int32) → (Int32) → (Int32) → (Int32) → Option ((Nat → Nat → Int32))
  | 0, _, _, _, _ => none
  | n + 1, c0, x1, x2, x3 =>
  (if (90 : Int32) ≤ x3 then some ((rs c0 0 (upd (upd (upd (upd (upd (c0 0) 30 x1) 31 x2) 12 (1 : Int32)) 13 (1 : Int32)) 17 (-1 : Int32)))) else (if inb x3 194 then (ld_X9_begin_2 F n) (rs c0 0 (upd (c0 0) (ix x3) (0 : Int32))) x1 x2 (x3 + (1 : Int32)) else none))
def md_X9_begin (F : Nat) (c0 : Nat → Nat → Int32) (p1 : Int32) (p2 : Int32) : Option ((Nat → Nat → Int32)) :=
  ld_X9_begin_2 F F c0 p1 p2 (0 : Int32)
def md_X9_many (c0 : Nat → Nat → Int32) (w0 : Nat → Nat → Int64) : Option (Int32) :=
  some (((c0 0) 0))
def md_X9_isPoint (c0 : Nat → Nat → Int32) (w0 : Nat → Nat → Int64) (p1 : Int32) : Option (Int32) :=
  bd1 (md_X9_many c0 w0) (fun r1 => bd1 (md_X9_in p1.toInt64 (0 : Int64) (r1 - (1 : Int32)).toInt64) (fun r3 => (if r3 = 0 ∨ r3 = 1 then some (r3) else none)))
def md_X9_isCounsel (p0 : Int32) : Option (Int32) :=
  bd1 (md_X9_in p0.toInt64 (0 : Int64) (1 : Int64)) (fun r1 => (if r1 = 0 ∨ r1 = 1 then some (r1) else none))
def md_X9_isKind (p0 : Int32) : Option (Int32) :=
  bd1 (md_X9_in p0.toInt64 (0 : Int64) (5 : Int64)) (fun r1 => (if r1 = 0 ∨ r1 = 1 then some (r1) else none))
def jd_X9_suit_14 (F : Nat) (w0 : Nat → Nat → Int64) (c0 : Nat → Nat → Int32) : Option (Int32 × (Nat → Nat → Int32)) :=
  bd2 (md_X9_bad c0 w0 (-2 : Int32)) (fun r1 cv2 => some (r1, cv2))
def md_X9_suit (F : Nat) (c0 : Nat → Nat → Int32) (w0 : Nat → Nat → Int64) (p1 : Int32) (p2 : Int32) : Option (Int32 × (Nat → Nat → Int32)) :=
  bd1 (md_X9_isKind p1) (fun r7 => (if r7 = 0 then jd_X9_suit_14 F w0 c0 else bd1 (md_X9_isKind p2) (fun r10 => (if r10 = 0 then jd_X9_suit_14 F w0 c0 else bd1 (md_X9_many c0 w0) (fun r13 => bd1 (md_X9_begin F (fun _ => (c0 0)) p1 p2) (fun cv15 => some (r13, (rs c0 0 (cv15 0)))))))))
def jd_X9_bows_19 (w0 : Nat → Nat → Int64) (c0 : Nat → Nat → Int32) : Option (Int32 × (Nat → Nat → Int32)) :=
  bd2 (md_X9_bad c0 w0 (-2 : Int32)) (fun r1 cv2 => some (r1, cv2))
def md_X9_bows (c0 : Nat → Nat → Int32) (w0 : Nat → Nat → Int64) (p1 : Int32) (p2 : Int32) : Option (Int32 × (Nat → Nat → Int32)) :=
  bd1 (md_X9_isCounsel p1) (fun r7 => (if r7 = 0 then jd_X9_bows_19 w0 c0 else bd1 (md_X9_in p2.toInt64 (0 : Int64) (3 : Int64)) (fun r10 => (if r10 = 0 then jd_X9_bows_19 w0 c0 else (if inb ((12 : Int32) + p1) 194 then lt1 ((c0 0) (ix ((12 : Int32) + p1))) (fun y14 => (if inb ((12 : Int32) + p1) 194 then some (y14, (rs c0 0 (upd (upd (c0 0) (ix ((12 : Int32) + p1)) p2) 4 (0 : Int32)))) else none)) else none)))))
def md_X9_layPoint (c0 : Nat → Nat → Int32) (p1 : Int32) (p2 : Int32) (p3 : Int32) : Option ((Nat → Nat → Int32)) :=
  (if inb ((18 : Int32) + ((c0 0) 0)) 194 then (if inb ((24 : Int32) + ((c0 0) 0)) 194 then (if inb ((6 : Int32) + ((c0 0) 0)) 194 then lt1 (((upd (upd (upd (c0 0) (ix ((18 : Int32) + ((c0 0) 0))) p1) (ix ((24 : Int32) + ((c0 0) 0))) p2) (ix ((6 : Int32) + ((c0 0) 0))) p3) 0) + (1 : Int32)) (fun y4 => some ((rs c0 0 (upd (upd (upd (upd (c0 0) (ix ((18 : Int32) + ((c0 0) 0))) p1) (ix ((24 : Int32) + ((c0 0) 0))) p2) (ix ((6 : Int32) + ((c0 0) 0))) p3) 0 y4)))) else none) else none) else none)
def jd_X9_point_31 (w0 : Nat → Nat → Int64) (c0 : Nat → Nat → Int32) : Option (Int32 × (Nat → Nat → Int32)) :=
  bd2 (md_X9_bad c0 w0 (-2 : Int32)) (fun r1 cv2 => some (r1, cv2))
def md_X9_point (c0 : Nat → Nat → Int32) (w0 : Nat → Nat → Int64) (p1 : Int32) (p2 : Int32) (p3 : Int32) : Option (Int32 × (Nat → Nat → Int32)) :=
  bd1 (md_X9_isKind p1) (fun r7 => (if r7 = 0 then jd_X9_point_31 w0 c0 else bd1 (md_X9_in p2.toInt64 (1 : Int64) (9 : Int64)) (fun r10 => (if r10 = 0 then jd_X9_point_31 w0 c0 else bd1 (md_X9_in p3.toInt64 (0 : Int64) (3 : Int64)) (fun r13 => (if r13 = 0 then jd_X9_point_31 w0 c0 else bd1 (md_X9_many c0 w0) (fun r16 => (if r16 = (6 : Int32) then bd2 (md_X9_full c0 w0) (fun r26 cv27 => some (r26, cv27)) else bd1 (md_X9_layPoint (fun _ => (c0 0)) p1 p2 p3) (fun cv19 => bd1 (md_X9_many (rs c0 0 (upd (cv19 0) 4 (0 : Int32))) w0) (fun r21 => some ((r21 - (1 : Int32)), (rs c0 0 (upd (cv19 0) 4 (0 : Int32))))))))))))))
def md_X9_movesAs (p0 : Int32) (p1 : Int32) (p2 : Int32) (p3 : Int32) : Option (Int32) :=
  lt1 ((p1 + (1 : Int32)) / (2 : Int32)) (fun y1 => lt1 (if 0 ≤ p2 then p1 else ((2 : Int32) * p1)) (fun y3 => (if p0 = (1 : Int32) then some (y1) else (if p0 = (2 : Int32) then some (y3) else (if p0 = (3 : Int32) then some ((y1 + p3)) else (if p0 = (4 : Int32) then some ((y3 + (2 : Int32))) else (if p0 = (5 : Int32) then lt1 (if (p3 - p3 / (2 : Int32) * (2 : Int32)) = (1 : Int32) then (0 : Int32) else p1) (fun y16 => some (y16)) else some (p1))))))))
def md_X9_countsAs (p0 : Int32) (p1 : Int32) (p2 : Int32) : Option (Int32) :=
  lt1 (if p1 ≤ (1 : Int32) then (0 : Int32) else (p1 - (1 : Int32))) (fun y1 => (if p0 = (1 : Int32) then some ((p1 + (2 : Int32))) else (if p0 = (2 : Int32) then some (y1) else (if p0 = (3 : Int32) then lt1 (if p2 = 0 then (p1 + (2 : Int32)) else ((-p1) - (2 : Int32))) (fun y10 => some (y10)) else (if p0 = (4 : Int32) then lt1 (if (p1 - p1 / (2 : Int32) * (2 : Int32)) = 0 then (y1 + (3 : Int32)) else y1) (fun y16 => some (y16)) else (if p0 = (5 : Int32) then some (((p1 + (2 : Int32)) / (2 : Int32))) else some (p1)))))))
def md_X9_chairOf (p0 : Int32) (p1 : Int32) : Option (Int32) :=
  lt1 (if p0 = p1 then (0 : Int32) else (1 : Int32)) (fun y1 => some (y1))
def md_X9_countsBy (c0 : Nat → Nat → Int32) (w0 : Nat → Nat → Int64) (p1 : Int32) (p2 : Int32) (p3 : Int32) (p4 : Int32) : Option (Int32) :=
  lt1 (p4 - p4 / (2 : Int32) * (2 : Int32)) (fun y1 => bd1 (md_X9_chairOf p2 y1) (fun r3 => (if inb ((18 : Int32) + p1) 194 then (if inb ((24 : Int32) + p1) 194 then lt1 (if r3 = 0 then p3 else (-p3)) (fun y7 => bd1 (md_X9_movesAs ((c0 0) (ix ((18 : Int32) + p1))) ((c0 0) (ix ((24 : Int32) + p1))) y7 p4) (fun r11 => (if inb ((30 : Int32) + y1) 194 then bd1 (md_X9_countsAs ((c0 0) (ix ((30 : Int32) + y1))) r11 r3) (fun r14 => some (r14)) else none))) else none) else none)))
def md_X9_meritBy (c0 : Nat → Nat → Int32) (w0 : Nat → Nat → Int64) (p1 : Int32) (p2 : Int32) (p3 : Int32) (p4 : Int32) : Option (Int32) :=
  bd1 (md_X9_countsBy c0 w0 p1 p2 p3 p4) (fun r1 => bd1 (md_X9_chairOf p2 (p4 - p4 / (2 : Int32) * (2 : Int32))) (fun r3 => lt1 (if r3 = 0 then (p3 + r1) else (p3 - r1)) (fun y5 => lt1 (if y5 ≤ (99 : Int32) then (if (-99 : Int32) ≤ y5 then y5 else (-99 : Int32)) else (99 : Int32)) (fun y9 => some (y9)))))
def ld_X9_save_53 (F : Nat) (w0 : Nat → Nat → Int64) : Nat → (Nat → Nat → Int32) → (Int32) → Option ((Nat → Nat → Int32))
  | 0, _, _ => none
  | n + 1, c0, x1 =>
  (if (13 : Int32) ≤ x1 then some ((rs c0 0 (upd (c0 0) 4 (((c0 0) 4) + (1 : Int32))))) else (if inb ((5 : Int32) + x1) 194 then (if inb (((90 : Int32) + ((13 : Int32) * ((c0 0) 4))) + x1) 194 then (ld_X9_save_53 F w0 n) (rs c0 0 (upd (c0 0) (ix (((90 : Int32) + ((13 : Int32) * ((c0 0) 4))) + x1)) ((c0 0) (ix ((5 : Int32) + x1))))) (x1 + (1 : Int32)) else none) else none))
def ld_X9_save_13 (F : Nat) (w0 : Nat → Nat → Int64) : Nat → (Nat → Nat → Int32) → (Int32) → Option ((Nat → Nat → Int32))
  | 0, _, _ => none
  | n + 1, c0, x1 =>
  (if (91 : Int32) ≤ x1 then ld_X9_save_53 F w0 F (rs c0 0 (upd (c0 0) 4 (7 : Int32))) (0 : Int32) else (if inb ((103 : Int32) + x1) 194 then (if inb ((90 : Int32) + x1) 194 then (ld_X9_save_13 F w0 n) (rs c0 0 (upd (c0 0) (ix ((90 : Int32) + x1)) ((c0 0) (ix ((103 : Int32) + x1))))) (x1 + (1 : Int32)) else none) else none))
def md_X9_save (F : Nat) (c0 : Nat → Nat → Int32) (w0 : Nat → Nat → Int64) : Option ((Nat → Nat → Int32)) :=
  (if ((c0 0) 4) = (8 : Int32) then ld_X9_save_13 F w0 F c0 (0 : Int32) else ld_X9_save_53 F w0 F c0 (0 : Int32))
def md_X9_says (F : Nat) (c0 : Nat → Nat → Int32) (w0 : Nat → Nat → Int64) (p1 : Int32) : Option (Int32 × (Nat → Nat → Int32)) :=
  bd1 (md_X9_isPoint c0 w0 p1) (fun r1 => (if r1 = 0 then bd2 (md_X9_bad c0 w0 (-1000 : Int32)) (fun r22 cv23 => some (r22, cv23)) else bd1 (md_X9_has ((c0 0) 5) p1) (fun r4 => (if r4 = 0 then bd1 (md_X9_save F c0 w0) (fun cv7 => bd1 (md_X9_meritBy cv7 w0 p1 ((cv7 0) 14) ((cv7 0) 15) ((cv7 0) 16)) (fun r9 => lt1 (((upd (upd (cv7 0) 15 r9) 5 (((upd (cv7 0) 15 r9) 5) ||| ((1 : Int32) <<< (p1 &&& 31)))) 16) + (1 : Int32)) (fun y11 => some (((upd (upd (upd (upd (cv7 0) 15 r9) 5 (((upd (cv7 0) 15 r9) 5) ||| ((1 : Int32) <<< (p1 &&& 31)))) 16 y11) 17 p1) 15), (rs cv7 0 (upd (upd (upd (upd (cv7 0) 15 r9) 5 (((upd (cv7 0) 15 r9) 5) ||| ((1 : Int32) <<< (p1 &&& 31)))) 16 y11) 17 p1)))))) else bd2 (md_X9_no c0 w0 (-1001 : Int32)) (fun r16 cv17 => some (r16, cv17))))))
def md_X9_may (c0 : Nat → Nat → Int32) (w0 : Nat → Nat → Int64) : Option (Int32) :=
  (if ((c0 0) 17) = (-1 : Int32) then some ((0 : Int32)) else (if inb ((6 : Int32) + ((c0 0) 17)) 194 then (if ((c0 0) (ix ((6 : Int32) + ((c0 0) 17)))) ≤ 0 then some ((0 : Int32)) else (if inb ((12 : Int32) + (((c0 0) 16) - ((c0 0) 16) / (2 : Int32) * (2 : Int32))) 194 then (if ((c0 0) (ix ((12 : Int32) + (((c0 0) 16) - ((c0 0) 16) / (2 : Int32) * (2 : Int32))))) ≤ 0 then some ((0 : Int32)) else some ((1 : Int32))) else none)) else none))
def md_X9_objects (F : Nat) (c0 : Nat → Nat → Int32) (w0 : Nat → Nat → Int64) : Option (Int32 × (Nat → Nat → Int32)) :=
  bd1 (md_X9_may c0 w0) (fun r1 => (if r1 = 0 then bd2 (md_X9_no c0 w0 (-3 : Int32)) (fun r19 cv20 => some (r19, cv20)) else bd1 (md_X9_save F c0 w0) (fun cv4 => (if inb ((12 : Int32) + (((cv4 0) 16) - ((cv4 0) 16) / (2 : Int32) * (2 : Int32))) 194 then lt1 (((cv4 0) (ix ((12 : Int32) + (((cv4 0) 16) - ((cv4 0) 16) / (2 : Int32) * (2 : Int32))))) - (1 : Int32)) (fun y7 => (if inb ((12 : Int32) + (((cv4 0) 16) - ((cv4 0) 16) / (2 : Int32) * (2 : Int32))) 194 then (if inb ((6 : Int32) + ((upd (cv4 0) (ix ((12 : Int32) + (((cv4 0) 16) - ((cv4 0) 16) / (2 : Int32) * (2 : Int32)))) y7) 17)) 194 then lt1 (((upd (cv4 0) (ix ((12 : Int32) + (((cv4 0) 16) - ((cv4 0) 16) / (2 : Int32) * (2 : Int32)))) y7) (ix ((6 : Int32) + ((upd (cv4 0) (ix ((12 : Int32) + (((cv4 0) 16) - ((cv4 0) 16) / (2 : Int32) * (2 : Int32)))) y7) 17)))) - (1 : Int32)) (fun y11 => (if inb ((6 : Int32) + ((upd (cv4 0) (ix ((12 : Int32) + (((cv4 0) 16) - ((cv4 0) 16) / (2 : Int32) * (2 : Int32)))) y7) 17)) 194 then lt1 ((1 : Int32) - ((upd (upd (cv4 0) (ix ((12 : Int32) + (((cv4 0) 16) - ((cv4 0) 16) / (2 : Int32) * (2 : Int32)))) y7) (ix ((6 : Int32) + ((upd (cv4 0) (ix ((12 : Int32) + (((cv4 0) 16) - ((cv4 0) 16) / (2 : Int32) * (2 : Int32)))) y7) 17))) y11) 14)) (fun y14 => some (((upd (upd (upd (upd (cv4 0) (ix ((12 : Int32) + (((cv4 0) 16) - ((cv4 0) 16) / (2 : Int32) * (2 : Int32)))) y7) (ix ((6 : Int32) + ((upd (cv4 0) (ix ((12 : Int32) + (((cv4 0) 16) - ((cv4 0) 16) / (2 : Int32) * (2 : Int32)))) y7) 17))) y11) 14 y14) 17 (-1 : Int32)) 14), (rs cv4 0 (upd (upd (upd (upd (cv4 0) (ix ((12 : Int32) + (((cv4 0) 16) - ((cv4 0) 16) / (2 : Int32) * (2 : Int32)))) y7) (ix ((6 : Int32) + ((upd (cv4 0) (ix ((12 : Int32) + (((cv4 0) 16) - ((cv4 0) 16) / (2 : Int32) * (2 : Int32)))) y7) 17))) y11) 14 y14) 17 (-1 : Int32))))) else none)) else none) else none)) else none))))
def ld_X9_undo_28 (F : Nat) (w0 : Nat → Nat → Int64) : Nat → (Nat → Nat → Int32) → (Int32) → Option (Int32 × (Nat → Nat → Int32))
  | 0, _, _ => none
  | n + 1, c0, x1 =>
  (if (13 : Int32) ≤ x1 then some (((c0 0) 16), c0) else (if inb (((90 : Int32) + ((13 : Int32) * ((c0 0) 4))) + x1) 194 then lt1 ((c0 0) (ix (((90 : Int32) + ((13 : Int32) * ((c0 0) 4))) + x1))) (fun y6 => (if inb ((5 : Int32) + x1) 194 then (ld_X9_undo_28 F w0 n) (rs c0 0 (upd (c0 0) (ix ((5 : Int32) + x1)) y6)) (x1 + (1 : Int32)) else none)) else none))
def md_X9_undo (F : Nat) (c0 : Nat → Nat → Int32) (w0 : Nat → Nat → Int64) : Option (Int32 × (Nat → Nat → Int32)) :=
  (if ((c0 0) 4) = 0 then bd2 (md_X9_no c0 w0 (-3 : Int32)) (fun r10 cv11 => some (r10, cv11)) else ld_X9_undo_28 F w0 F (rs c0 0 (upd (c0 0) 4 (((c0 0) 4) - (1 : Int32)))) (0 : Int32))
def md_X9_open (c0 : Nat → Nat → Int32) (w0 : Nat → Nat → Int64) : Option (Int32) :=
  bd1 (md_X9_many c0 w0) (fun r1 => some (((((1 : Int32) <<< (r1 &&& 31)) - (1 : Int32)) &&& (((c0 0) 5) ^^^ (-1 : Int32)))))
def md_X9_toldNow (c0 : Nat → Nat → Int32) (w0 : Nat → Nat → Int64) (p1 : Int32) : Option (Int32) :=
  (if p1 = (0 : Int32) then some (((c0 0) 15)) else (if p1 = (1 : Int32) then some (((c0 0) 14)) else (if p1 = (2 : Int32) then some (((c0 0) 16)) else (if p1 = (3 : Int32) then some ((((c0 0) 16) - ((c0 0) 16) / (2 : Int32) * (2 : Int32))) else (if p1 = (4 : Int32) then bd1 (md_X9_may c0 w0) (fun r10 => lt1 (if r10 = 0 then (0 : Int32) else (1 : Int32)) (fun y12 => some (y12))) else bd1 (md_X9_open c0 w0) (fun r17 => lt1 (if r17 = 0 then (if ((c0 0) 15) ≤ 0 then (1 : Int32) else (0 : Int32)) else (-1 : Int32)) (fun y19 => some (y19))))))))
def md_X9_now (c0 : Nat → Nat → Int32) (w0 : Nat → Nat → Int64) (p1 : Int32) : Option (Int32 × (Nat → Nat → Int32)) :=
  bd1 (md_X9_in p1.toInt64 (0 : Int64) (5 : Int64)) (fun r1 => (if r1 = 0 then bd2 (md_X9_bad c0 w0 (-1000 : Int32)) (fun r4 cv5 => some (r4, cv5)) else bd1 (md_X9_toldNow c0 w0 p1) (fun r10 => some (r10, c0))))
def jd_X9_of_20 (w0 : Nat → Nat → Int64) (c0 : Nat → Nat → Int32) : Option (Int32 × (Nat → Nat → Int32)) :=
  bd2 (md_X9_bad c0 w0 (-2 : Int32)) (fun r1 cv2 => some (r1, cv2))
def md_X9_of (c0 : Nat → Nat → Int32) (w0 : Nat → Nat → Int64) (p1 : Int32) (p2 : Int32) : Option (Int32 × (Nat → Nat → Int32)) :=
  bd1 (md_X9_isPoint c0 w0 p1) (fun r7 => (if r7 = 0 then jd_X9_of_20 w0 c0 else bd1 (md_X9_in p2.toInt64 (0 : Int64) (3 : Int64)) (fun r10 => (if r10 = 0 then jd_X9_of_20 w0 c0 else (if p2 = (3 : Int32) then some (((((c0 0) 5) >>> (p1 &&& 31)) &&& (1 : Int32)), c0) else lt1 (if p2 = 0 then (18 : Int32) else (if p2 = (1 : Int32) then (24 : Int32) else (6 : Int32))) (fun y14 => (if inb (y14 + p1) 194 then some (((c0 0) (ix (y14 + p1))), c0) else none)))))))
def jd_X9_about_19 (w0 : Nat → Nat → Int64) (c0 : Nat → Nat → Int32) : Option (Int32 × (Nat → Nat → Int32)) :=
  bd2 (md_X9_bad c0 w0 (-2 : Int32)) (fun r1 cv2 => some (r1, cv2))
def md_X9_about (c0 : Nat → Nat → Int32) (w0 : Nat → Nat → Int64) (p1 : Int32) (p2 : Int32) : Option (Int32 × (Nat → Nat → Int32)) :=
  bd1 (md_X9_isCounsel p1) (fun r7 => (if r7 = 0 then jd_X9_about_19 w0 c0 else bd1 (md_X9_in p2.toInt64 (0 : Int64) (2 : Int64)) (fun r10 => (if r10 = 0 then jd_X9_about_19 w0 c0 else (if p2 = 0 then (if inb ((30 : Int32) + p1) 194 then some (((c0 0) (ix ((30 : Int32) + p1))), c0) else none) else (if p2 = (1 : Int32) then (if inb ((12 : Int32) + p1) 194 then some (((c0 0) (ix ((12 : Int32) + p1))), c0) else none) else bd1 (md_X9_chairOf ((c0 0) 14) p1) (fun r15 => some (r15, c0))))))))
def md_X9_moves (c0 : Nat → Nat → Int32) (w0 : Nat → Nat → Int64) (p1 : Int32) : Option (Int32 × (Nat → Nat → Int32)) :=
  bd1 (md_X9_isPoint c0 w0 p1) (fun r1 => (if r1 = 0 then bd2 (md_X9_bad c0 w0 (-1000 : Int32)) (fun r18 cv19 => some (r18, cv19)) else bd1 (md_X9_has ((c0 0) 5) p1) (fun r4 => (if r4 = 0 then bd1 (md_X9_countsBy c0 w0 p1 ((c0 0) 14) ((c0 0) 15) ((c0 0) 16)) (fun r7 => some (r7, c0)) else bd2 (md_X9_no c0 w0 (-1001 : Int32)) (fun r12 cv13 => some (r12, cv13))))))
def md_X9_worstOf (p0 : Int32) : Option (Int32) :=
  (if p0 = 0 then some ((-1000000 : Int32)) else some ((1000000 : Int32)))
def md_X9_openLevel (c0 : Nat → Nat → Int32) (w0 : Nat → Nat → Int64) (p1 : Int32) : Option ((Nat → Nat → Int32)) :=
  (if inb p1 14 then (if inb p1 14 then bd1 (md_X9_worstOf (((c0 9) (ix p1)) - ((c0 9) (ix p1)) / (2 : Int32) * (2 : Int32))) (fun r3 => (if inb p1 14 then some ((rs (rs c0 12 (upd (c0 12) (ix p1) (-1 : Int32))) 13 (upd (c0 13) (ix p1) r3))) else none)) else none) else none)
def md_X9_layLevel (c0 : Nat → Nat → Int32) (w0 : Nat → Nat → Int64) (p1 : Int32) (p2 : Int32) : Option ((Nat → Nat → Int32)) :=
  (if inb p2 14 then (if inb p1 14 then (if inb p2 14 then (if inb p1 14 then (if inb p2 14 then (if inb p1 14 then (if inb p2 14 then (if inb p1 14 then (if inb ((2 : Int32) * p2) 28 then (if inb ((2 : Int32) * p1) 28 then (if inb (((2 : Int32) * p2) + (1 : Int32)) 28 then lt1 ((upd (c0 10) (ix ((2 : Int32) * p1)) ((c0 10) (ix ((2 : Int32) * p2)))) (ix (((2 : Int32) * p2) + (1 : Int32)))) (fun y12 => (if inb (((2 : Int32) * p1) + (1 : Int32)) 28 then (if inb p2 14 then (if inb p1 14 then bd1 (md_X9_openLevel (rs (rs (rs (rs (rs (rs c0 6 (upd (c0 6) (ix p1) ((c0 6) (ix p2)))) 7 (upd (c0 7) (ix p1) ((c0 7) (ix p2)))) 8 (upd (c0 8) (ix p1) ((c0 8) (ix p2)))) 9 (upd (c0 9) (ix p1) ((c0 9) (ix p2)))) 10 (upd (upd (c0 10) (ix ((2 : Int32) * p1)) ((c0 10) (ix ((2 : Int32) * p2)))) (ix (((2 : Int32) * p1) + (1 : Int32))) y12)) 11 (upd (c0 11) (ix p1) ((c0 11) (ix p2)))) w0 p1) (fun cv17 => some (cv17)) else none) else none) else none)) else none) else none) else none) else none) else none) else none) else none) else none) else none) else none) else none)
def md_X9_mayAt (c0 : Nat → Nat → Int32) (w0 : Nat → Nat → Int64) (p1 : Int32) : Option (Int32) :=
  (if inb p1 14 then (if ((c0 11) (ix p1)) = (-1 : Int32) then some ((0 : Int32)) else (if inb ((6 : Int32) + ((c0 11) (ix p1))) 194 then (if ((c0 0) (ix ((6 : Int32) + ((c0 11) (ix p1))))) ≤ 0 then some ((0 : Int32)) else (if inb p1 14 then (if inb (((2 : Int32) * p1) + (((c0 9) (ix p1)) - ((c0 9) (ix p1)) / (2 : Int32) * (2 : Int32))) 28 then (if ((c0 10) (ix (((2 : Int32) * p1) + (((c0 9) (ix p1)) - ((c0 9) (ix p1)) / (2 : Int32) * (2 : Int32))))) ≤ 0 then some ((0 : Int32)) else some ((1 : Int32))) else none) else none)) else none)) else none)
def md_X9_layFirst (c0 : Nat → Nat → Int32) (w0 : Nat → Nat → Int64) (p1 : Int32) : Option ((Nat → Nat → Int32)) :=
  lt1 (if p1 = 0 then ((c0 0) 14) else ((1 : Int32) - ((c0 0) 14))) (fun y1 => (if inb (((upd (c0 9) 0 ((c0 0) 16)) 0) - ((upd (c0 9) 0 ((c0 0) 16)) 0) / (2 : Int32) * (2 : Int32)) 28 then lt1 (if p1 = 0 then (0 : Int32) else (1 : Int32)) (fun y6 => lt1 (((upd (upd (c0 10) 0 ((c0 0) 12)) 1 ((c0 0) 13)) (ix (((upd (c0 9) 0 ((c0 0) 16)) 0) - ((upd (c0 9) 0 ((c0 0) 16)) 0) / (2 : Int32) * (2 : Int32)))) - y6) (fun y10 => (if inb (((upd (c0 9) 0 ((c0 0) 16)) 0) - ((upd (c0 9) 0 ((c0 0) 16)) 0) / (2 : Int32) * (2 : Int32)) 28 then bd1 (md_X9_openLevel (rs (rs (rs (rs (rs (rs c0 6 (upd (c0 6) 0 ((c0 0) 5))) 7 (upd (c0 7) 0 y1)) 8 (upd (c0 8) 0 ((c0 0) 15))) 9 (upd (c0 9) 0 ((c0 0) 16))) 10 (upd (upd (upd (c0 10) 0 ((c0 0) 12)) 1 ((c0 0) 13)) (ix (((upd (c0 9) 0 ((c0 0) 16)) 0) - ((upd (c0 9) 0 ((c0 0) 16)) 0) / (2 : Int32) * (2 : Int32))) y10)) 11 (upd (c0 11) 0 (-1 : Int32))) w0 (0 : Int32)) (fun cv13 => some (cv13)) else none))) else none))
def jd_X9_choosesAt_121 (F : Nat) (w0 : Nat → Nat → Int64) (c0 : Nat → Nat → Int32) (x1 : Int32) (x2 : Int32) : Option (Int32 × (Nat → Nat → Int32)) :=
  bd1 (md_X9_many c0 w0) (fun r1 => (if x2 < r1 then bd1 (md_X9_layLevel c0 w0 (x1 + (1 : Int32)) x1) (fun cv4 => (if inb (x1 + (1 : Int32)) 14 then lt1 (((cv4 6) (ix (x1 + (1 : Int32)))) ||| ((1 : Int32) <<< (x2 &&& 31))) (fun y7 => (if inb (x1 + (1 : Int32)) 14 then (if inb x1 14 then (if inb x1 14 then (if inb x1 14 then bd1 (md_X9_meritBy (rs cv4 6 (upd (cv4 6) (ix (x1 + (1 : Int32))) y7)) w0 x2 ((cv4 7) (ix x1)) ((cv4 8) (ix x1)) ((cv4 9) (ix x1))) (fun r13 => (if inb (x1 + (1 : Int32)) 14 then (if inb x1 14 then (if inb (x1 + (1 : Int32)) 14 then (if inb (x1 + (1 : Int32)) 14 then bd1 (md_X9_openLevel (rs (rs (rs (rs cv4 6 (upd (cv4 6) (ix (x1 + (1 : Int32))) y7)) 8 (upd (cv4 8) (ix (x1 + (1 : Int32))) r13)) 9 (upd (cv4 9) (ix (x1 + (1 : Int32))) (((cv4 9) (ix x1)) + (1 : Int32)))) 11 (upd (cv4 11) (ix (x1 + (1 : Int32))) x2)) w0 (x1 + (1 : Int32))) (fun cv19 => (if inb x1 14 then some ((1 : Int32), (rs cv19 12 (upd (cv19 12) (ix x1) x2))) else none)) else none) else none) else none) else none)) else none) else none) else none) else none)) else none)) else some ((0 : Int32), c0)))
def ld_X9_choosesAt_94 (F : Nat) (w0 : Nat → Nat → Int64) : Nat → (Nat → Nat → Int32) → (Int32) → (Int32) → Option (Int32 × (Nat → Nat → Int32))
  | 0, _, _, _ => none
  | n + 1, c0, x1, x2 =>
  bd1 (md_X9_many c0 w0) (fun r28 => (if r28 ≤ x2 then jd_X9_choosesAt_121 F w0 c0 x1 x2 else (if inb x1 14 then bd1 (md_X9_has ((c0 6) (ix x1)) x2) (fun r32 => (if r32 = 0 then jd_X9_choosesAt_121 F w0 c0 x1 x2 else (ld_X9_choosesAt_94 F w0 n) c0 x1 (x2 + (1 : Int32)))) else none)))
def jd_X9_choosesAt_85 (F : Nat) (w0 : Nat → Nat → Int64) (c0 : Nat → Nat → Int32) (x1 : Int32) (x2 : Int32) : Option (Int32 × (Nat → Nat → Int32)) :=
  (if inb x1 14 then some ((1 : Int32), (rs c0 12 (upd (c0 12) (ix x1) x2))) else none)
def md_X9_choosesAt (F : Nat) (c0 : Nat → Nat → Int32) (w0 : Nat → Nat → Int64) (p1 : Int32) : Option (Int32 × (Nat → Nat → Int32)) :=
  (if inb p1 14 then lt1 (((c0 12) (ix p1)) + (1 : Int32)) (fun y40 => bd1 (md_X9_mayAt c0 w0 p1) (fun r42 => (if r42 = 0 then ld_X9_choosesAt_94 F w0 F c0 p1 y40 else (if y40 ≤ (1 : Int32) then bd1 (md_X9_layLevel c0 w0 (p1 + (1 : Int32)) p1) (fun cv46 => (if inb (p1 + (1 : Int32)) 14 then (if y40 = (1 : Int32) then (if inb p1 14 then (if inb ((((2 : Int32) * p1) + (2 : Int32)) + (((cv46 9) (ix p1)) - ((cv46 9) (ix p1)) / (2 : Int32) * (2 : Int32))) 28 then lt1 (((cv46 10) (ix ((((2 : Int32) * p1) + (2 : Int32)) + (((cv46 9) (ix p1)) - ((cv46 9) (ix p1)) / (2 : Int32) * (2 : Int32))))) - (1 : Int32)) (fun y52 => (if inb ((((2 : Int32) * p1) + (2 : Int32)) + (((cv46 9) (ix p1)) - ((cv46 9) (ix p1)) / (2 : Int32) * (2 : Int32))) 28 then (if inb p1 14 then (if inb (p1 + (1 : Int32)) 14 then jd_X9_choosesAt_85 F w0 (rs (rs (rs cv46 7 (upd (cv46 7) (ix (p1 + (1 : Int32))) ((1 : Int32) - ((cv46 7) (ix p1))))) 10 (upd (cv46 10) (ix ((((2 : Int32) * p1) + (2 : Int32)) + (((cv46 9) (ix p1)) - ((cv46 9) (ix p1)) / (2 : Int32) * (2 : Int32)))) y52)) 11 (upd (cv46 11) (ix (p1 + (1 : Int32))) (-1 : Int32))) p1 y40 else none) else none) else none)) else none) else none) else jd_X9_choosesAt_85 F w0 (rs cv46 11 (upd (cv46 11) (ix (p1 + (1 : Int32))) (-1 : Int32))) p1 y40) else none)) else some ((0 : Int32), c0))))) else none)
def md_X9_isEnd (c0 : Nat → Nat → Int32) (w0 : Nat → Nat → Int64) (p1 : Int32) : Option (Int32) :=
  (if inb p1 14 then bd1 (md_X9_many c0 w0) (fun r2 => (if ((c0 6) (ix p1)) = (((1 : Int32) <<< (r2 &&& 31)) - (1 : Int32)) then bd1 (md_X9_mayAt c0 w0 p1) (fun r6 => (if r6 = 0 then some ((1 : Int32)) else some ((0 : Int32)))) else some ((0 : Int32)))) else none)
def jd_X9_solve_181 (F : Nat) (w0 : Nat → Nat → Int64) (k41 : (Nat → Nat → Int32) → (Int32) → Option (Int32 × (Nat → Nat → Int32))) (c0 : Nat → Nat → Int32) (x1 : Int32) (x4 : Int32) (s1 : Int32) (s2 : Int32) : Option (Int32 × (Nat → Nat → Int32)) :=
  (if inb s1 14 then lt1 (if x4 = 0 then (c0 14 0) else (if x1 = 0 then ((c0 12) 0) else (c0 14 0))) (fun y2 => k41 (rs (rs c0 13 (upd (c0 13) (ix s1) s2)) 14 (fun _ => y2)) x1) else none)
def jd_X9_solve_159 (F : Nat) (w0 : Nat → Nat → Int64) (k41 : (Nat → Nat → Int32) → (Int32) → Option (Int32 × (Nat → Nat → Int32))) (c0 : Nat → Nat → Int32) (x1 : Int32) (x3 : Int32) (s0 : Int32) : Option (Int32 × (Nat → Nat → Int32)) :=
  (if s0 = 0 then (if inb x1 14 then jd_X9_solve_181 F w0 k41 c0 x1 s0 x1 ((c0 13) (ix x1)) else none) else jd_X9_solve_181 F w0 k41 c0 x1 s0 x1 x3)
def jd_X9_solve_107 (F : Nat) (w0 : Nat → Nat → Int64) (k41 : (Nat → Nat → Int32) → (Int32) → Option (Int32 × (Nat → Nat → Int32))) (c0 : Nat → Nat → Int32) (x1 : Int32) (s0 : Int32) : Option (Int32 × (Nat → Nat → Int32)) :=
  (if (x1 + (-1 : Int32)) < 0 then k41 c0 (x1 + (-1 : Int32)) else (if inb (x1 + (-1 : Int32)) 14 then (if (((c0 9) (ix (x1 + (-1 : Int32)))) - ((c0 9) (ix (x1 + (-1 : Int32)))) / (2 : Int32) * (2 : Int32)) = 0 then (if inb (x1 + (-1 : Int32)) 14 then (if s0 ≤ ((c0 13) (ix (x1 + (-1 : Int32)))) then jd_X9_solve_159 F w0 k41 c0 (x1 + (-1 : Int32)) s0 (0 : Int32) else jd_X9_solve_159 F w0 k41 c0 (x1 + (-1 : Int32)) s0 (1 : Int32)) else none) else (if inb (x1 + (-1 : Int32)) 14 then (if ((c0 13) (ix (x1 + (-1 : Int32)))) ≤ s0 then jd_X9_solve_159 F w0 k41 c0 (x1 + (-1 : Int32)) s0 (0 : Int32) else jd_X9_solve_159 F w0 k41 c0 (x1 + (-1 : Int32)) s0 (1 : Int32)) else none)) else none))
def jd_X9_solve_69 (F : Nat) (w0 : Nat → Nat → Int64) (k41 : (Nat → Nat → Int32) → (Int32) → Option (Int32 × (Nat → Nat → Int32))) (c0 : Nat → Nat → Int32) (x1 : Int32) (x2 : Int32) : Option (Int32 × (Nat → Nat → Int32)) :=
  (if x2 = 0 then (if inb x1 14 then jd_X9_solve_107 F w0 k41 c0 x1 ((c0 13) (ix x1)) else none) else (if inb x1 14 then (if ((c0 7) (ix x1)) = 0 then (if inb x1 14 then jd_X9_solve_107 F w0 k41 c0 x1 ((c0 8) (ix x1)) else none) else (if inb x1 14 then jd_X9_solve_107 F w0 k41 c0 x1 (-((c0 8) (ix x1))) else none)) else none))
def ld_X9_solve_41 (F : Nat) (w0 : Nat → Nat → Int64) : Nat → (Nat → Nat → Int32) → (Int32) → Option (Int32 × (Nat → Nat → Int32))
  | 0, _, _ => none
  | n + 1, c0, x1 =>
  (if x1 < 0 then some (((c0 13) 0), c0) else bd1 (md_X9_isEnd c0 w0 x1) (fun r26 => (if r26 = 0 then bd2 (md_X9_choosesAt F c0 w0 x1) (fun r29 cv30 => (if r29 = 0 then jd_X9_solve_69 F w0 (ld_X9_solve_41 F w0 n) cv30 x1 r26 else (ld_X9_solve_41 F w0 n) cv30 (x1 + (1 : Int32)))) else jd_X9_solve_69 F w0 (ld_X9_solve_41 F w0 n) c0 x1 r26)))
def md_X9_solve (F : Nat) (c0 : Nat → Nat → Int32) (w0 : Nat → Nat → Int64) : Option (Int32 × (Nat → Nat → Int32)) :=
  bd1 (md_X9_isEnd (rs c0 14 (fun _ => (-1 : Int32))) w0 (0 : Int32)) (fun r33 => (if r33 = 0 then ld_X9_solve_41 F w0 F (rs c0 14 (fun _ => (-1 : Int32))) (0 : Int32) else lt1 (if ((c0 7) 0) = 0 then ((c0 8) 0) else (-((c0 8) 0))) (fun y36 => some (y36, (rs c0 14 (fun _ => (-1 : Int32)))))))
def md_X9_solveBy (F : Nat) (c0 : Nat → Nat → Int32) (w0 : Nat → Nat → Int64) (p1 : Int32) : Option (Int32 × (Nat → Nat → Int32)) :=
  bd1 (md_X9_layFirst c0 w0 p1) (fun cv1 => bd2 (md_X9_solve F cv1 w0) (fun r3 cv4 => some (r3, cv4)))
def md_X9_isBetterObjected (F : Nat) (c0 : Nat → Nat → Int32) (w0 : Nat → Nat → Int64) : Option (Int32 × (Nat → Nat → Int32)) :=
  bd2 (md_X9_solveBy F c0 w0 (0 : Int32)) (fun r1 cv2 => bd2 (md_X9_solveBy F cv2 w0 (1 : Int32)) (fun r4 cv5 => lt1 (if (((cv5 0) 16) - ((cv5 0) 16) / (2 : Int32) * (2 : Int32)) = 0 then (if r4 ≤ r1 then (0 : Int32) else (1 : Int32)) else (if r1 ≤ r4 then (0 : Int32) else (1 : Int32))) (fun y7 => (if y7 = 0 ∨ y7 = 1 then some (y7, cv5) else none))))
def jd_X9_playIs_22 (F : Nat) (w0 : Nat → Nat → Int64) (c0 : Nat → Nat → Int32) (x1 : Int32) (s0 : Int32) : Option (Int32 × (Nat → Nat → Int32)) :=
  lt1 (if (((c0 0) 16) - ((c0 0) 16) / (2 : Int32) * (2 : Int32)) = 0 then (if s0 ≤ x1 then (0 : Int32) else (1 : Int32)) else (if x1 ≤ s0 then (0 : Int32) else (1 : Int32))) (fun y1 => lt1 (if y1 = 0 then x1 else s0) (fun y7 => some (y7, c0)))
def md_X9_playIs (F : Nat) (c0 : Nat → Nat → Int32) (w0 : Nat → Nat → Int64) : Option (Int32 × (Nat → Nat → Int32)) :=
  bd2 (md_X9_solveBy F c0 w0 (0 : Int32)) (fun r14 cv15 => bd1 (md_X9_may cv15 w0) (fun r17 => (if r17 = 0 then jd_X9_playIs_22 F w0 cv15 r14 r14 else bd2 (md_X9_solveBy F cv15 w0 (1 : Int32)) (fun r20 cv21 => jd_X9_playIs_22 F w0 cv21 r14 r20))))
def md_X9_play (F : Nat) (c0 : Nat → Nat → Int32) (w0 : Nat → Nat → Int64) (p1 : Int32) : Option (Int32 × (Nat → Nat → Int32)) :=
  bd1 (md_X9_in p1.toInt64 (0 : Int64) (2 : Int64)) (fun r1 => (if r1 = 0 then bd2 (md_X9_bad c0 w0 (-1000 : Int32)) (fun r34 cv35 => some (r34, cv35)) else (if p1 = 0 then bd2 (md_X9_playIs F c0 w0) (fun r28 cv29 => some (r28, cv29)) else (if p1 = (1 : Int32) then bd1 (md_X9_may c0 w0) (fun r12 => (if r12 = 0 then some ((-1 : Int32), c0) else bd2 (md_X9_isBetterObjected F c0 w0) (fun r15 cv16 => (if r15 = 0 then some ((0 : Int32), cv16) else some ((1 : Int32), cv16))))) else bd2 (md_X9_solveBy F c0 w0 (0 : Int32)) (fun r6 cv7 => some ((cv7 14 0), cv7))))))
def md_X9_layNow (c0 : Nat → Nat → Int32) (w0 : Nat → Nat → Int64) : Option ((Nat → Nat → Int32)) :=
  some ((rs (rs (rs (rs c0 15 (fun _ => ((c0 0) 14))) 16 (fun _ => ((c0 0) 15))) 17 (fun _ => ((c0 0) 16))) 18 (upd (upd (c0 18) 0 ((c0 0) 12)) 1 ((c0 0) 13))))
def md_X9_goSaying (c0 : Nat → Nat → Int32) (w0 : Nat → Nat → Int64) (p1 : Int32) : Option ((Nat → Nat → Int32)) :=
  bd1 (md_X9_meritBy c0 w0 p1 (c0 15 0) (c0 16 0) (c0 17 0)) (fun r1 => some ((rs (rs c0 16 (fun _ => r1)) 17 (fun _ => ((c0 17 0) + (1 : Int32))))))
def md_X9_mayTo (c0 : Nat → Nat → Int32) (w0 : Nat → Nat → Int64) (p1 : Int32) : Option (Int32) :=
  (if inb ((6 : Int32) + p1) 194 then (if ((c0 0) (ix ((6 : Int32) + p1))) ≤ 0 then some ((0 : Int32)) else (if inb ((c0 17 0) - (c0 17 0) / (2 : Int32) * (2 : Int32)) 2 then (if ((c0 18) (ix ((c0 17 0) - (c0 17 0) / (2 : Int32) * (2 : Int32)))) ≤ 0 then some ((0 : Int32)) else some ((1 : Int32))) else none)) else none)
def md_X9_goObjecting (c0 : Nat → Nat → Int32) (w0 : Nat → Nat → Int64) : Option ((Nat → Nat → Int32)) :=
  (if inb ((c0 17 0) - (c0 17 0) / (2 : Int32) * (2 : Int32)) 2 then lt1 (((c0 18) (ix ((c0 17 0) - (c0 17 0) / (2 : Int32) * (2 : Int32)))) - (1 : Int32)) (fun y2 => (if inb ((c0 17 0) - (c0 17 0) / (2 : Int32) * (2 : Int32)) 2 then some ((rs (rs c0 15 (fun _ => ((1 : Int32) - (c0 15 0)))) 18 (upd (c0 18) (ix ((c0 17 0) - (c0 17 0) / (2 : Int32) * (2 : Int32))) y2))) else none)) else none)
def ld_X9_proof_77 (F : Nat) (w0 : Nat → Nat → Int64) (k21 : (Nat → Nat → Int32) → (Int32) → (Int32) → (Int32) → Option (Int32 × (Nat → Nat → Int32))) : Nat → (Nat → Nat → Int32) → (Int32) → (Int32) → (Int32) → (Int32) → Option (Int32 × (Nat → Nat → Int32))
  | 0, _, _, _, _, _ => none
  | n + 1, c0, x1, x2, x3, x5 =>
  bd1 (md_X9_many c0 w0) (fun r1 => (if r1 ≤ x5 then lt1 (if x1 = 0 then (if 0 < (c0 16 0) then x3 else (if x1 = (1 : Int32) then (if 0 ≤ (c0 16 0) then x2 else x3) else x2)) else (if x1 = (1 : Int32) then (if 0 ≤ (c0 16 0) then x2 else x3) else x2)) (fun y4 => k21 c0 x1 y4 (x3 + (1 : Int32))) else bd1 (md_X9_has x3 x5) (fun r13 => (if r13 = 0 then (ld_X9_proof_77 F w0 k21 n) c0 x1 x2 x3 (x5 + (1 : Int32)) else bd1 (md_X9_goSaying c0 w0 x5) (fun cv16 => (ld_X9_proof_77 F w0 k21 n) cv16 x1 x2 x3 (x5 + (1 : Int32)))))))
def jd_X9_proof_52 (F : Nat) (w0 : Nat → Nat → Int64) (k21 : (Nat → Nat → Int32) → (Int32) → (Int32) → (Int32) → Option (Int32 × (Nat → Nat → Int32))) (c0 : Nat → Nat → Int32) (x1 : Int32) (x2 : Int32) (x3 : Int32) (s0 : Int32) : Option (Int32 × (Nat → Nat → Int32)) :=
  (if (x3 &&& ((c0 0) 5)) = 0 then (if s0 = 0 then k21 c0 x1 x2 (x3 + (1 : Int32)) else bd1 (md_X9_layNow c0 w0) (fun cv20 => ld_X9_proof_77 F w0 k21 F cv20 x1 x2 x3 (0 : Int32))) else k21 c0 x1 x2 (x3 + (1 : Int32)))
def ld_X9_proof_21 (F : Nat) (w0 : Nat → Nat → Int64) : Nat → (Nat → Nat → Int32) → (Int32) → (Int32) → (Int32) → Option (Int32 × (Nat → Nat → Int32))
  | 0, _, _, _, _ => none
  | n + 1, c0, x1, x2, x3 =>
  bd1 (md_X9_many c0 w0) (fun r22 => (if ((1 : Int32) <<< (r22 &&& 31)) ≤ x3 then some (x2, c0) else (if x2 = (-1 : Int32) then jd_X9_proof_52 F w0 (ld_X9_proof_21 F w0 n) c0 x1 x2 x3 (1 : Int32) else bd1 (md_X9_bits F x3) (fun r29 => bd1 (md_X9_bits F x2) (fun r31 => (if r31 ≤ r29 then jd_X9_proof_52 F w0 (ld_X9_proof_21 F w0 n) c0 x1 x2 x3 (0 : Int32) else jd_X9_proof_52 F w0 (ld_X9_proof_21 F w0 n) c0 x1 x2 x3 (1 : Int32)))))))
def md_X9_proof (F : Nat) (c0 : Nat → Nat → Int32) (w0 : Nat → Nat → Int64) (p1 : Int32) : Option (Int32 × (Nat → Nat → Int32)) :=
  bd1 (md_X9_in p1.toInt64 (0 : Int64) (1 : Int64)) (fun r34 => (if r34 = 0 then bd2 (md_X9_bad c0 w0 (-2 : Int32)) (fun r37 cv38 => some (r37, cv38)) else ld_X9_proof_21 F w0 F c0 p1 (-1 : Int32) (0 : Int32)))
def md_X9_ends (c0 : Nat → Nat → Int32) (w0 : Nat → Nat → Int64) (p1 : Int32) : Option (Int32 × (Nat → Nat → Int32)) :=
  bd1 (md_X9_in p1.toInt64 (-99 : Int64) (99 : Int64)) (fun r1 => (if r1 = 0 then bd2 (md_X9_bad c0 w0 (-2 : Int32)) (fun r17 cv18 => some (r17, cv18)) else (if ((c0 0) 1) = (4 : Int32) then bd2 (md_X9_full c0 w0) (fun r11 cv12 => some (r11, cv12)) else (if inb ((32 : Int32) + ((c0 0) 1)) 194 then lt1 (((upd (c0 0) (ix ((32 : Int32) + ((c0 0) 1))) p1) 1) + (1 : Int32)) (fun y6 => some (((upd (upd (c0 0) (ix ((32 : Int32) + ((c0 0) 1))) p1) 1 y6) 1), (rs c0 0 (upd (upd (c0 0) (ix ((32 : Int32) + ((c0 0) 1))) p1) 1 y6)))) else none))))
def jd_X9_goesAll_59 (F : Nat) (w0 : Nat → Nat → Int64) (k8 : (Nat → Nat → Int32) → (Int32) → (Int32) → (Int32) → Option (Int32 × (Nat → Nat → Int32))) (c0 : Nat → Nat → Int32) (x1 : Int32) (x3 : Int32) (s0 : Int32) : Option (Int32 × (Nat → Nat → Int32)) :=
  (if s0 = 0 then k8 c0 x1 s0 (x3 + (1 : Int32)) else bd1 (md_X9_has x1 x3) (fun r2 => (if r2 = 0 then k8 c0 x1 s0 (x3 + (1 : Int32)) else bd1 (md_X9_goObjecting c0 w0) (fun cv5 => k8 cv5 x1 s0 (x3 + (1 : Int32))))))
def ld_X9_goesAll_8 (F : Nat) (w0 : Nat → Nat → Int64) : Nat → (Nat → Nat → Int32) → (Int32) → (Int32) → (Int32) → Option (Int32 × (Nat → Nat → Int32))
  | 0, _, _, _, _ => none
  | n + 1, c0, x1, x2, x3 =>
  bd1 (md_X9_many c0 w0) (fun r7 => (if r7 ≤ x3 then (if x2 = 0 ∨ x2 = 1 then some (x2, c0) else none) else (if x2 = 0 then (if x2 = 0 ∨ x2 = 1 then some (x2, c0) else none) else bd1 (md_X9_has ((c0 0) 5) x3) (fun r19 => (if r19 = 0 then bd1 (md_X9_goSaying c0 w0 x3) (fun cv22 => bd1 (md_X9_has x1 x3) (fun r24 => (if r24 = 0 then jd_X9_goesAll_59 F w0 (ld_X9_goesAll_8 F w0 n) cv22 x1 x3 (1 : Int32) else bd1 (md_X9_mayTo cv22 w0 x3) (fun r27 => (if r27 = 0 then jd_X9_goesAll_59 F w0 (ld_X9_goesAll_8 F w0 n) cv22 x1 x3 (0 : Int32) else jd_X9_goesAll_59 F w0 (ld_X9_goesAll_8 F w0 n) cv22 x1 x3 (1 : Int32)))))) else (ld_X9_goesAll_8 F w0 n) c0 x1 x2 (x3 + (1 : Int32)))))))
def md_X9_goesAll (F : Nat) (c0 : Nat → Nat → Int32) (w0 : Nat → Nat → Int64) (p1 : Int32) : Option (Int32 × (Nat → Nat → Int32)) :=
  bd1 (md_X9_layNow c0 w0) (fun cv30 => ld_X9_goesAll_8 F w0 F cv30 p1 (1 : Int32) (0 : Int32))
def jd_X9_bowed_120 (F : Nat) (w0 : Nat → Nat → Int64) (k32 : (Nat → Nat → Int32) → (Int32) → (Int32) → (Int32) → (Int32) → (Int32) → Option (Int32 × (Nat → Nat → Int32))) (c0 : Nat → Nat → Int32) (x1 : Int32) (x2 : Int32) (x3 : Int32) (x4 : Int32) (x5 : Int32) (x6 : Int32) : Option (Int32 × (Nat → Nat → Int32)) :=
  lt1 (if x6 = 0 then (0 : Int32) else (1 : Int32)) (fun y1 => lt1 (if x6 = 0 then x3 else x5) (fun y5 => lt1 (if x6 = 0 then (0 : Int32) else x5) (fun y9 => k32 c0 x1 (x2 + y1) (x3 &&& y5) (x4 ||| y9) (x5 + (1 : Int32)))))
def ld_X9_bowed_74 (F : Nat) (w0 : Nat → Nat → Int64) (k32 : (Nat → Nat → Int32) → (Int32) → (Int32) → (Int32) → (Int32) → (Int32) → Option (Int32 × (Nat → Nat → Int32))) : Nat → (Nat → Nat → Int32) → (Int32) → (Int32) → (Int32) → (Int32) → (Int32) → (Int32) → (Int32) → Option (Int32 × (Nat → Nat → Int32))
  | 0, _, _, _, _, _, _, _, _ => none
  | n + 1, c0, x1, x2, x3, x4, x5, x6, x7 =>
  (if ((c0 0) 1) ≤ x7 then jd_X9_bowed_120 F w0 k32 c0 x1 x2 x3 x4 x5 x6 else (if x6 = 0 then jd_X9_bowed_120 F w0 k32 c0 x1 x2 x3 x4 x5 x6 else (if inb ((32 : Int32) + x7) 194 then lt1 (if (c0 16 0) = ((c0 0) (ix ((32 : Int32) + x7))) then (1 : Int32) else (0 : Int32)) (fun y16 => (ld_X9_bowed_74 F w0 k32 n) c0 x1 x2 x3 x4 x5 y16 (x7 + (1 : Int32))) else none)))
def ld_X9_bowed_32 (F : Nat) (w0 : Nat → Nat → Int64) : Nat → (Nat → Nat → Int32) → (Int32) → (Int32) → (Int32) → (Int32) → (Int32) → Option (Int32 × (Nat → Nat → Int32))
  | 0, _, _, _, _, _, _ => none
  | n + 1, c0, x1, x2, x3, x4, x5 =>
  bd1 (md_X9_many c0 w0) (fun r20 => (if ((1 : Int32) <<< (r20 &&& 31)) ≤ x5 then lt1 (if x1 = 0 then x2 else (if x1 = (2 : Int32) then x4 else (if x2 = 0 then (-1 : Int32) else x3))) (fun y23 => some (y23, c0)) else (if (x5 &&& ((c0 0) 5)) = 0 then bd2 (md_X9_goesAll F c0 w0 x5) (fun r33 cv34 => (if r33 = 0 then ld_X9_bowed_74 F w0 (ld_X9_bowed_32 F w0 n) F cv34 x1 x2 x3 x4 x5 (0 : Int32) (0 : Int32) else ld_X9_bowed_74 F w0 (ld_X9_bowed_32 F w0 n) F cv34 x1 x2 x3 x4 x5 (1 : Int32) (0 : Int32))) else ld_X9_bowed_74 F w0 (ld_X9_bowed_32 F w0 n) F c0 x1 x2 x3 x4 x5 (0 : Int32) (0 : Int32))))
def md_X9_bowed (F : Nat) (c0 : Nat → Nat → Int32) (w0 : Nat → Nat → Int64) (p1 : Int32) : Option (Int32 × (Nat → Nat → Int32)) :=
  bd1 (md_X9_in p1.toInt64 (0 : Int64) (2 : Int64)) (fun r37 => (if r37 = 0 then bd2 (md_X9_bad c0 w0 (-2 : Int32)) (fun r42 cv43 => some (r42, cv43)) else bd1 (md_X9_open c0 w0) (fun r40 => ld_X9_bowed_32 F w0 F c0 p1 (0 : Int32) r40 (0 : Int32) (0 : Int32))))
def jd_X9_note_60 (w0 : Nat → Nat → Int64) (c0 : Nat → Nat → Int32) : Option (Int32 × (Nat → Nat → Int32)) :=
  bd2 (md_X9_bad c0 w0 (-2 : Int32)) (fun r1 cv2 => some (r1, cv2))
def md_X9_note (c0 : Nat → Nat → Int32) (w0 : Nat → Nat → Int64) (p1 : Int32) (p2 : Int32) (p3 : Int32) (p4 : Int32) (p5 : Int32) : Option (Int32 × (Nat → Nat → Int32)) :=
  bd1 (md_X9_isPoint c0 w0 p1) (fun r7 => (if r7 = 0 then jd_X9_note_60 w0 c0 else bd1 (md_X9_in p2.toInt64 (1 : Int64) (9 : Int64)) (fun r10 => (if r10 = 0 then jd_X9_note_60 w0 c0 else bd1 (md_X9_in p3.toInt64 (-99 : Int64) (99 : Int64)) (fun r13 => (if r13 = 0 then jd_X9_note_60 w0 c0 else bd1 (md_X9_in p4.toInt64 (0 : Int64) (9 : Int64)) (fun r16 => (if r16 = 0 then jd_X9_note_60 w0 c0 else bd1 (md_X9_in p5.toInt64 (0 : Int64) (40 : Int64)) (fun r19 => (if r19 = 0 then jd_X9_note_60 w0 c0 else (if ((c0 0) 2) = (6 : Int32) then bd2 (md_X9_full c0 w0) (fun r35 cv36 => some (r35, cv36)) else lt1 ((36 : Int32) + ((5 : Int32) * ((c0 0) 2))) (fun y23 => (if inb y23 194 then (if inb (y23 + (1 : Int32)) 194 then (if inb (y23 + (2 : Int32)) 194 then (if inb (y23 + (3 : Int32)) 194 then (if inb (y23 + (4 : Int32)) 194 then lt1 (((upd (upd (upd (upd (upd (c0 0) (ix y23) p1) (ix (y23 + (1 : Int32))) p2) (ix (y23 + (2 : Int32))) p3) (ix (y23 + (3 : Int32))) p4) (ix (y23 + (4 : Int32))) p5) 2) + (1 : Int32)) (fun y30 => some (((upd (upd (upd (upd (upd (upd (c0 0) (ix y23) p1) (ix (y23 + (1 : Int32))) p2) (ix (y23 + (2 : Int32))) p3) (ix (y23 + (3 : Int32))) p4) (ix (y23 + (4 : Int32))) p5) 2 y30) 2), (rs c0 0 (upd (upd (upd (upd (upd (upd (c0 0) (ix y23) p1) (ix (y23 + (1 : Int32))) p2) (ix (y23 + (2 : Int32))) p3) (ix (y23 + (3 : Int32))) p4) (ix (y23 + (4 : Int32))) p5) 2 y30)))) else none) else none) else none) else none) else none)))))))))))))
def jd_X9_mark_44 (w0 : Nat → Nat → Int64) (c0 : Nat → Nat → Int32) : Option (Int32 × (Nat → Nat → Int32)) :=
  bd2 (md_X9_bad c0 w0 (-2 : Int32)) (fun r1 cv2 => some (r1, cv2))
def md_X9_mark (c0 : Nat → Nat → Int32) (w0 : Nat → Nat → Int64) (p1 : Int32) (p2 : Int32) (p3 : Int32) (p4 : Int32) : Option (Int32 × (Nat → Nat → Int32)) :=
  bd1 (md_X9_isCounsel p1) (fun r7 => (if r7 = 0 then jd_X9_mark_44 w0 c0 else bd1 (md_X9_in p2.toInt64 (0 : Int64) (40 : Int64)) (fun r10 => (if r10 = 0 then jd_X9_mark_44 w0 c0 else bd1 (md_X9_in p3.toInt64 (0 : Int64) (1 : Int64)) (fun r13 => (if r13 = 0 then jd_X9_mark_44 w0 c0 else bd1 (md_X9_in p4.toInt64 (-50 : Int64) (50 : Int64)) (fun r16 => (if r16 = 0 then jd_X9_mark_44 w0 c0 else (if ((c0 0) 3) = (6 : Int32) then bd2 (md_X9_full c0 w0) (fun r31 cv32 => some (r31, cv32)) else lt1 ((66 : Int32) + ((4 : Int32) * ((c0 0) 3))) (fun y20 => (if inb y20 194 then (if inb (y20 + (1 : Int32)) 194 then (if inb (y20 + (2 : Int32)) 194 then (if inb (y20 + (3 : Int32)) 194 then lt1 (((upd (upd (upd (upd (c0 0) (ix y20) p1) (ix (y20 + (1 : Int32))) p2) (ix (y20 + (2 : Int32))) p3) (ix (y20 + (3 : Int32))) p4) 3) + (1 : Int32)) (fun y26 => some (((upd (upd (upd (upd (upd (c0 0) (ix y20) p1) (ix (y20 + (1 : Int32))) p2) (ix (y20 + (2 : Int32))) p3) (ix (y20 + (3 : Int32))) p4) 3 y26) 3), (rs c0 0 (upd (upd (upd (upd (upd (c0 0) (ix y20) p1) (ix (y20 + (1 : Int32))) p2) (ix (y20 + (2 : Int32))) p3) (ix (y20 + (3 : Int32))) p4) 3 y26)))) else none) else none) else none) else none)))))))))))
def md_X9_forget (c0 : Nat → Nat → Int32) (w0 : Nat → Nat → Int64) (p1 : Int32) : Option (Int32 × (Nat → Nat → Int32)) :=
  bd1 (md_X9_in p1.toInt64 (0 : Int64) (2 : Int64)) (fun r1 => (if r1 = 0 then bd2 (md_X9_bad c0 w0 (-2 : Int32)) (fun r11 cv12 => some (r11, cv12)) else (if inb ((1 : Int32) + p1) 194 then lt1 ((c0 0) (ix ((1 : Int32) + p1))) (fun y5 => (if inb ((1 : Int32) + p1) 194 then some (y5, (rs c0 0 (upd (c0 0) (ix ((1 : Int32) + p1)) (0 : Int32)))) else none)) else none)))
def ld_X9_kindsOf_16 (F : Nat) (c0 : Nat → Nat → Int32) (w0 : Nat → Nat → Int64) (k4 : (Int32) → (Int32) → (Int32) → Option (Int32)) : Nat → (Int32) → (Int32) → (Int32) → (Int32) → (Int32) → Option (Int32)
  | 0, _, _, _, _, _ => none
  | n + 1, x1, x2, x3, x4, x5 =>
  (if ((c0 0) 2) ≤ x5 then lt1 (if x4 = 0 then (0 : Int32) else ((1 : Int32) <<< (x3 &&& 31))) (fun y2 => k4 x1 (x2 ||| y2) (x3 + (1 : Int32))) else lt1 ((36 : Int32) + ((5 : Int32) * x5)) (fun y6 => (if x4 = 0 then (ld_X9_kindsOf_16 F c0 w0 k4 n) x1 x2 x3 (0 : Int32) (x5 + (1 : Int32)) else (if inb y6 194 then (if ((c0 0) (ix y6)) = x1 then (if inb (y6 + (1 : Int32)) 194 then (if inb (y6 + (2 : Int32)) 194 then (if inb (y6 + (3 : Int32)) 194 then bd1 (md_X9_movesAs x3 ((c0 0) (ix (y6 + (1 : Int32)))) ((c0 0) (ix (y6 + (2 : Int32)))) ((c0 0) (ix (y6 + (3 : Int32))))) (fun r14 => (if inb (y6 + (4 : Int32)) 194 then (if r14 = ((c0 0) (ix (y6 + (4 : Int32)))) then (ld_X9_kindsOf_16 F c0 w0 k4 n) x1 x2 x3 (1 : Int32) (x5 + (1 : Int32)) else (ld_X9_kindsOf_16 F c0 w0 k4 n) x1 x2 x3 (0 : Int32) (x5 + (1 : Int32))) else none)) else none) else none) else none) else (ld_X9_kindsOf_16 F c0 w0 k4 n) x1 x2 x3 (1 : Int32) (x5 + (1 : Int32))) else none))))
def ld_X9_kindsOf_4 (F : Nat) (c0 : Nat → Nat → Int32) (w0 : Nat → Nat → Int64) : Nat → (Int32) → (Int32) → (Int32) → Option (Int32)
  | 0, _, _, _ => none
  | n + 1, x1, x2, x3 =>
  (if (6 : Int32) ≤ x3 then some (x2) else ld_X9_kindsOf_16 F c0 w0 (ld_X9_kindsOf_4 F c0 w0 n) F x1 x2 x3 (1 : Int32) (0 : Int32))
def md_X9_kindsOf (F : Nat) (c0 : Nat → Nat → Int32) (w0 : Nat → Nat → Int64) (p1 : Int32) : Option (Int32) :=
  ld_X9_kindsOf_4 F c0 w0 F p1 (0 : Int32) (0 : Int32)
def ld_X9_kindsOfCounsel_16 (F : Nat) (c0 : Nat → Nat → Int32) (w0 : Nat → Nat → Int64) (k4 : (Int32) → (Int32) → (Int32) → Option (Int32)) : Nat → (Int32) → (Int32) → (Int32) → (Int32) → (Int32) → Option (Int32)
  | 0, _, _, _, _, _ => none
  | n + 1, x1, x2, x3, x4, x5 =>
  (if ((c0 0) 3) ≤ x5 then lt1 (if x4 = 0 then (0 : Int32) else ((1 : Int32) <<< (x3 &&& 31))) (fun y2 => k4 x1 (x2 ||| y2) (x3 + (1 : Int32))) else lt1 ((66 : Int32) + ((4 : Int32) * x5)) (fun y6 => (if x4 = 0 then (ld_X9_kindsOfCounsel_16 F c0 w0 k4 n) x1 x2 x3 (0 : Int32) (x5 + (1 : Int32)) else (if inb y6 194 then (if ((c0 0) (ix y6)) = x1 then (if inb (y6 + (1 : Int32)) 194 then (if inb (y6 + (2 : Int32)) 194 then bd1 (md_X9_countsAs x3 ((c0 0) (ix (y6 + (1 : Int32)))) ((c0 0) (ix (y6 + (2 : Int32))))) (fun r13 => (if inb (y6 + (3 : Int32)) 194 then (if r13 = ((c0 0) (ix (y6 + (3 : Int32)))) then (ld_X9_kindsOfCounsel_16 F c0 w0 k4 n) x1 x2 x3 (1 : Int32) (x5 + (1 : Int32)) else (ld_X9_kindsOfCounsel_16 F c0 w0 k4 n) x1 x2 x3 (0 : Int32) (x5 + (1 : Int32))) else none)) else none) else none) else (ld_X9_kindsOfCounsel_16 F c0 w0 k4 n) x1 x2 x3 (1 : Int32) (x5 + (1 : Int32))) else none))))
def ld_X9_kindsOfCounsel_4 (F : Nat) (c0 : Nat → Nat → Int32) (w0 : Nat → Nat → Int64) : Nat → (Int32) → (Int32) → (Int32) → Option (Int32)
  | 0, _, _, _ => none
  | n + 1, x1, x2, x3 =>
  (if (6 : Int32) ≤ x3 then some (x2) else ld_X9_kindsOfCounsel_16 F c0 w0 (ld_X9_kindsOfCounsel_4 F c0 w0 n) F x1 x2 x3 (1 : Int32) (0 : Int32))
def md_X9_kindsOfCounsel (F : Nat) (c0 : Nat → Nat → Int32) (w0 : Nat → Nat → Int64) (p1 : Int32) : Option (Int32) :=
  ld_X9_kindsOfCounsel_4 F c0 w0 F p1 (0 : Int32) (0 : Int32)
def md_X9_is (F : Nat) (c0 : Nat → Nat → Int32) (w0 : Nat → Nat → Int64) (p1 : Int32) : Option (Int32 × (Nat → Nat → Int32)) :=
  bd1 (md_X9_isPoint c0 w0 p1) (fun r1 => (if r1 = 0 then bd2 (md_X9_bad c0 w0 (-2 : Int32)) (fun r4 cv5 => some (r4, cv5)) else bd1 (md_X9_kindsOf F c0 w0 p1) (fun r10 => some (r10, c0))))
def md_X9_kinds (F : Nat) (c0 : Nat → Nat → Int32) (w0 : Nat → Nat → Int64) (p1 : Int32) : Option (Int32 × (Nat → Nat → Int32)) :=
  bd1 (md_X9_isCounsel p1) (fun r1 => (if r1 = 0 then bd2 (md_X9_bad c0 w0 (-2 : Int32)) (fun r4 cv5 => some (r4, cv5)) else bd1 (md_X9_kindsOfCounsel F c0 w0 p1) (fun r10 => some (r10, c0))))
def jd_X9_mostAlike_72 (F : Nat) (c0 : Nat → Nat → Int32) (w0 : Nat → Nat → Int64) (k4 : (Int32) → (Int32) → (Int32) → Option (Int32)) (x1 : Int32) (x2 : Int32) (x3 : Int32) (x4 : Int32) : Option (Int32) :=
  lt1 (if x4 ≤ x2 then x2 else x4) (fun y1 => k4 x1 y1 (x3 + (1 : Int32)))
def ld_X9_mostAlike_16 (F : Nat) (c0 : Nat → Nat → Int32) (w0 : Nat → Nat → Int64) (k4 : (Int32) → (Int32) → (Int32) → Option (Int32)) : Nat → (Int32) → (Int32) → (Int32) → (Int32) → (Int32) → Option (Int32)
  | 0, _, _, _, _, _ => none
  | n + 1, x1, x2, x3, x4, x5 =>
  (if (6 : Int32) ≤ x5 then jd_X9_mostAlike_72 F c0 w0 k4 x1 x2 x3 x4 else bd1 (md_X9_has x1 x3) (fun r6 => (if r6 = 0 then jd_X9_mostAlike_72 F c0 w0 k4 x1 x2 x3 x4 else bd1 (md_X9_has x1 x5) (fun r9 => (if r9 = 0 then (ld_X9_mostAlike_16 F c0 w0 k4 n) x1 x2 x3 (x4 + (0 : Int32)) (x5 + (1 : Int32)) else (if inb x3 6 then (if inb x5 6 then (if ((c0 19) (ix x3)) = ((c0 19) (ix x5)) then (ld_X9_mostAlike_16 F c0 w0 k4 n) x1 x2 x3 (x4 + (1 : Int32)) (x5 + (1 : Int32)) else (ld_X9_mostAlike_16 F c0 w0 k4 n) x1 x2 x3 (x4 + (0 : Int32)) (x5 + (1 : Int32))) else none) else none))))))
def ld_X9_mostAlike_4 (F : Nat) (c0 : Nat → Nat → Int32) (w0 : Nat → Nat → Int64) : Nat → (Int32) → (Int32) → (Int32) → Option (Int32)
  | 0, _, _, _ => none
  | n + 1, x1, x2, x3 =>
  (if (6 : Int32) ≤ x3 then some (x2) else ld_X9_mostAlike_16 F c0 w0 (ld_X9_mostAlike_4 F c0 w0 n) F x1 x2 x3 (0 : Int32) (0 : Int32))
def md_X9_mostAlike (F : Nat) (c0 : Nat → Nat → Int32) (w0 : Nat → Nat → Int64) (p1 : Int32) : Option (Int32) :=
  ld_X9_mostAlike_4 F c0 w0 F p1 (0 : Int32) (0 : Int32)
def ld_X9_look_54 (F : Nat) (w0 : Nat → Nat → Int64) (k30 : (Nat → Nat → Int32) → (Int32) → (Int32) → (Int32) → (Int32) → (Int32) → Option (Int32 × (Nat → Nat → Int32))) (k44 : (Nat → Nat → Int32) → (Int32) → (Int32) → (Int32) → (Int32) → (Int32) → (Int32) → Option (Int32 × (Nat → Nat → Int32))) : Nat → (Nat → Nat → Int32) → (Int32) → (Int32) → (Int32) → (Int32) → (Int32) → (Int32) → (Int32) → Option (Int32 × (Nat → Nat → Int32))
  | 0, _, _, _, _, _, _, _, _ => none
  | n + 1, c0, x1, x2, x3, x4, x5, x6, x7 =>
  (if (6 : Int32) ≤ x7 then bd1 (md_X9_mostAlike F c0 w0 x2) (fun r2 => lt1 (if x4 ≤ r2 then x3 else (((100 : Int32) * x5) + x6)) (fun y4 => lt1 (if x4 ≤ r2 then x4 else r2) (fun y8 => k44 c0 x1 x2 y4 y8 x5 (x6 + (1 : Int32))))) else (if inb ((24 : Int32) + x1) 194 then bd1 (md_X9_movesAs x7 ((c0 0) (ix ((24 : Int32) + x1))) (x6 - (10 : Int32)) x5) (fun r13 => (if inb x7 6 then (ld_X9_look_54 F w0 k30 k44 n) (rs c0 19 (upd (c0 19) (ix x7) r13)) x1 x2 x3 x4 x5 x6 (x7 + (1 : Int32)) else none)) else none))
def ld_X9_look_44 (F : Nat) (w0 : Nat → Nat → Int64) (k30 : (Nat → Nat → Int32) → (Int32) → (Int32) → (Int32) → (Int32) → (Int32) → Option (Int32 × (Nat → Nat → Int32))) : Nat → (Nat → Nat → Int32) → (Int32) → (Int32) → (Int32) → (Int32) → (Int32) → (Int32) → Option (Int32 × (Nat → Nat → Int32))
  | 0, _, _, _, _, _, _, _ => none
  | n + 1, c0, x1, x2, x3, x4, x5, x6 =>
  (if (21 : Int32) ≤ x6 then k30 c0 x1 x2 x3 x4 (x5 + (1 : Int32)) else ld_X9_look_54 F w0 k30 (ld_X9_look_44 F w0 k30 n) F c0 x1 x2 x3 x4 x5 x6 (0 : Int32))
def ld_X9_look_30 (F : Nat) (w0 : Nat → Nat → Int64) : Nat → (Nat → Nat → Int32) → (Int32) → (Int32) → (Int32) → (Int32) → (Int32) → Option (Int32 × (Nat → Nat → Int32))
  | 0, _, _, _, _, _, _ => none
  | n + 1, c0, x1, x2, x3, x4, x5 =>
  (if (6 : Int32) ≤ x5 then some (x3, c0) else (if x2 ≤ 0 then some (x3, c0) else ld_X9_look_44 F w0 (ld_X9_look_30 F w0 n) F c0 x1 x2 x3 x4 x5 (0 : Int32)))
def md_X9_look (F : Nat) (c0 : Nat → Nat → Int32) (w0 : Nat → Nat → Int64) (p1 : Int32) : Option (Int32 × (Nat → Nat → Int32)) :=
  bd1 (md_X9_isPoint c0 w0 p1) (fun r25 => (if r25 = 0 then bd2 (md_X9_bad c0 w0 (-2 : Int32)) (fun r30 cv31 => some (r30, cv31)) else bd1 (md_X9_kindsOf F c0 w0 p1) (fun r28 => ld_X9_look_30 F w0 F c0 p1 r28 (-1 : Int32) (1000000 : Int32) (0 : Int32))))
def ld_X9_ask_52 (F : Nat) (w0 : Nat → Nat → Int64) (k29 : (Nat → Nat → Int32) → (Int32) → (Int32) → (Int32) → (Int32) → Option (Int32 × (Nat → Nat → Int32))) (k42 : (Nat → Nat → Int32) → (Int32) → (Int32) → (Int32) → (Int32) → (Int32) → Option (Int32 × (Nat → Nat → Int32))) : Nat → (Nat → Nat → Int32) → (Int32) → (Int32) → (Int32) → (Int32) → (Int32) → (Int32) → Option (Int32 × (Nat → Nat → Int32))
  | 0, _, _, _, _, _, _, _ => none
  | n + 1, c0, x2, x3, x4, x5, x6, x7 =>
  (if (6 : Int32) ≤ x7 then bd1 (md_X9_mostAlike F c0 w0 x2) (fun r2 => lt1 (if x4 ≤ r2 then x3 else (((100 : Int32) * x5) + x6)) (fun y4 => lt1 (if x4 ≤ r2 then x4 else r2) (fun y8 => k42 c0 x2 y4 y8 x5 (x6 + (1 : Int32))))) else bd1 (md_X9_countsAs x7 x6 x5) (fun r12 => (if inb x7 6 then (ld_X9_ask_52 F w0 k29 k42 n) (rs c0 19 (upd (c0 19) (ix x7) r12)) x2 x3 x4 x5 x6 (x7 + (1 : Int32)) else none)))
def ld_X9_ask_42 (F : Nat) (w0 : Nat → Nat → Int64) (k29 : (Nat → Nat → Int32) → (Int32) → (Int32) → (Int32) → (Int32) → Option (Int32 × (Nat → Nat → Int32))) : Nat → (Nat → Nat → Int32) → (Int32) → (Int32) → (Int32) → (Int32) → (Int32) → Option (Int32 × (Nat → Nat → Int32))
  | 0, _, _, _, _, _, _ => none
  | n + 1, c0, x2, x3, x4, x5, x6 =>
  (if (41 : Int32) ≤ x6 then k29 c0 x2 x3 x4 (x5 + (1 : Int32)) else ld_X9_ask_52 F w0 k29 (ld_X9_ask_42 F w0 k29 n) F c0 x2 x3 x4 x5 x6 (0 : Int32))
def ld_X9_ask_29 (F : Nat) (w0 : Nat → Nat → Int64) : Nat → (Nat → Nat → Int32) → (Int32) → (Int32) → (Int32) → (Int32) → Option (Int32 × (Nat → Nat → Int32))
  | 0, _, _, _, _, _ => none
  | n + 1, c0, x2, x3, x4, x5 =>
  (if (2 : Int32) ≤ x5 then some (x3, c0) else (if x2 ≤ 0 then some (x3, c0) else ld_X9_ask_42 F w0 (ld_X9_ask_29 F w0 n) F c0 x2 x3 x4 x5 (0 : Int32)))
def md_X9_ask (F : Nat) (c0 : Nat → Nat → Int32) (w0 : Nat → Nat → Int64) (p1 : Int32) : Option (Int32 × (Nat → Nat → Int32)) :=
  bd1 (md_X9_isCounsel p1) (fun r24 => (if r24 = 0 then bd2 (md_X9_bad c0 w0 (-2 : Int32)) (fun r29 cv30 => some (r29, cv30)) else bd1 (md_X9_kindsOfCounsel F c0 w0 p1) (fun r27 => ld_X9_ask_29 F w0 F c0 r27 (-1 : Int32) (1000000 : Int32) (0 : Int32))))
def md_X9_getsBy (p0 : Int32) (p1 : Int32) (p2 : Int32) : Option (Int32) :=
  lt1 (if (p0 + p1) < (10 : Int32) then (((5 : Int32) + p1) - p0) else p2) (fun y1 => some (y1))
def ld_X9_isBest_5 (F : Nat) : Nat → (Int32) → (Int32) → (Int32) → (Int32) → (Int32) → Option (Int32)
  | 0, _, _, _, _, _ => none
  | n + 1, x0, x1, x2, x3, x4 =>
  (if (10 : Int32) ≤ x4 then (if x3 = 0 ∨ x3 = 1 then some (x3) else none) else (if x3 = 0 then (if x3 = 0 ∨ x3 = 1 then some (x3) else none) else bd1 (md_X9_getsBy x4 x1 x2) (fun r7 => bd1 (md_X9_getsBy x0 x1 x2) (fun r9 => lt1 (if r9 < r7 then (0 : Int32) else (1 : Int32)) (fun y11 => (ld_X9_isBest_5 F n) x0 x1 x2 y11 (x4 + (1 : Int32)))))))
def md_X9_isBest (F : Nat) (p0 : Int32) (p1 : Int32) (p2 : Int32) : Option (Int32) :=
  ld_X9_isBest_5 F F p0 p1 p2 (1 : Int32) (0 : Int32)
def ld_X9_settle_22 (F : Nat) (w0 : Nat → Nat → Int64) : Nat → (Nat → Nat → Int32) → (Int32) → (Int32) → (Int32) → (Int32) → Option (Int32 × (Nat → Nat → Int32))
  | 0, _, _, _, _, _ => none
  | n + 1, c0, x1, x2, x3, x4 =>
  (if (100 : Int32) ≤ x4 then lt1 (if x1 = (-1 : Int32) then x3 else (-5 : Int32)) (fun y2 => some (y2, c0)) else bd1 (md_X9_isBest F (x4 / (10 : Int32)) (x4 - x4 / (10 : Int32) * (10 : Int32)) x2) (fun r9 => (if r9 = 0 then (ld_X9_settle_22 F w0 n) c0 x1 x2 x3 (x4 + (1 : Int32)) else bd1 (md_X9_isBest F (x4 - x4 / (10 : Int32) * (10 : Int32)) (x4 / (10 : Int32)) (-x2)) (fun r12 => (if r12 = 0 then (ld_X9_settle_22 F w0 n) c0 x1 x2 x3 (x4 + (1 : Int32)) else (if x3 = x1 then some (x4, c0) else (ld_X9_settle_22 F w0 n) c0 x1 x2 (x3 + (1 : Int32)) (x4 + (1 : Int32))))))))
def md_X9_settle (F : Nat) (c0 : Nat → Nat → Int32) (w0 : Nat → Nat → Int64) (p1 : Int32) : Option (Int32 × (Nat → Nat → Int32)) :=
  (if (-1 : Int32) ≤ p1 then bd2 (md_X9_playIs F c0 w0) (fun r20 cv21 => ld_X9_settle_22 F w0 F cv21 p1 r20 (0 : Int32) (0 : Int32)) else bd2 (md_X9_bad c0 w0 (-10 : Int32)) (fun r23 cv24 => some (r23, cv24)))
def ld_X9_fraction_6 (F : Nat) (c0 : Nat → Nat → Int32) : Nat → (Nat → Nat → Int64) → (Int64) → (Int64) → (Int64) → (Int64) → Option ((Nat → Nat → Int64))
  | 0, _, _, _, _, _ => none
  | n + 1, w0, x1, x3, x5, x7 =>
  (if (lg_cmp x7 (0 : Int64)) = 0 then (if ¬ x5 = 0 then (if ¬ x5 = 0 then some ((rs (rs w0 4 (fun _ => (x1 / x5))) 5 (fun _ => (x3 / x5)))) else none) else none) else (if ¬ x7 = 0 then (ld_X9_fraction_6 F c0 n) w0 x1 x3 x7 (x5 - x5 / x7 * x7) else none))
def md_X9_fraction (F : Nat) (c0 : Nat → Nat → Int32) (w0 : Nat → Nat → Int64) (p1 : Int64) (p3 : Int64) : Option ((Nat → Nat → Int64)) :=
  ld_X9_fraction_6 F c0 F w0 p1 p3 p1 p3
def md_X9_isWon (c0 : Nat → Nat → Int32) (w0 : Nat → Nat → Int64) : Option (Int32) :=
  lt1 (if (c0 15 0) = 0 then (if (c0 16 0) ≤ 0 then (0 : Int32) else (1 : Int32)) else (if 0 < (c0 16 0) then (0 : Int32) else (1 : Int32))) (fun y1 => (if y1 = 0 ∨ y1 = 1 then some (y1) else none))
def jd_X9_hearings_204 (F : Nat) (k56 : (Nat → Nat → Int32) → (Nat → Nat → Int64) → (Int32) → (Int64) → (Int64) → (Int32) → Option (Int32 × (Nat → Nat → Int32) × (Nat → Nat → Int64))) (c0 : Nat → Nat → Int32) (w0 : Nat → Nat → Int64) (x1 : Int32) (x2 : Int64) (x4 : Int64) (x6 : Int32) (x7 : Int64) : Option (Int32 × (Nat → Nat → Int32) × (Nat → Nat → Int64)) :=
  bd1 (md_X9_isWon c0 w0) (fun r1 => lt1 (if r1 = 0 then (0 : Int64) else x7) (fun y3 => k56 c0 w0 x1 (x2 + y3) x4 (x6 + (1 : Int32))))
def ld_X9_hearings_93 (F : Nat) (k56 : (Nat → Nat → Int32) → (Nat → Nat → Int64) → (Int32) → (Int64) → (Int64) → (Int32) → Option (Int32 × (Nat → Nat → Int32) × (Nat → Nat → Int64))) : Nat → (Nat → Nat → Int32) → (Nat → Nat → Int64) → (Int32) → (Int64) → (Int64) → (Int32) → (Int64) → (Int32) → Option (Int32 × (Nat → Nat → Int32) × (Nat → Nat → Int64))
  | 0, _, _, _, _, _, _, _, _ => none
  | n + 1, c0, w0, x1, x2, x4, x6, x7, x9 =>
  bd1 (md_X9_many c0 w0) (fun r7 => (if r7 ≤ x9 then jd_X9_hearings_204 F k56 c0 w0 x1 x2 x4 x6 x7 else (if (lg_cmp x7 (0 : Int64)) ≤ 0 then jd_X9_hearings_204 F k56 c0 w0 x1 x2 x4 x6 x7 else bd1 (md_X9_has ((c0 0) 5) x9) (fun r11 => (if r11 = 0 then bd1 (md_X9_goSaying c0 w0 x9) (fun cv14 => bd1 (md_X9_has x6 x9) (fun r16 => bd1 (md_X9_mayTo cv14 w0 x9) (fun r18 => lt1 (if r18 = 0 then (if r16 = 0 then (10 : Int64) else (0 : Int64)) else (if r16 = 0 then ((10 : Int32) - x1).toInt64 else x1.toInt64)) (fun y20 => (if r16 = 0 then (ld_X9_hearings_93 F k56 n) cv14 w0 x1 x2 x4 x6 (x7 * y20) (x9 + (1 : Int32)) else (if (lg_cmp (x7 * y20) (0 : Int64)) ≤ 0 then (ld_X9_hearings_93 F k56 n) cv14 w0 x1 x2 x4 x6 (x7 * y20) (x9 + (1 : Int32)) else bd1 (md_X9_goObjecting cv14 w0) (fun cv28 => (ld_X9_hearings_93 F k56 n) cv28 w0 x1 x2 x4 x6 (x7 * y20) (x9 + (1 : Int32))))))))) else (ld_X9_hearings_93 F k56 n) c0 w0 x1 x2 x4 x6 x7 (x9 + (1 : Int32)))))))
def ld_X9_hearings_56 (F : Nat) : Nat → (Nat → Nat → Int32) → (Nat → Nat → Int64) → (Int32) → (Int64) → (Int64) → (Int32) → Option (Int32 × (Nat → Nat → Int32) × (Nat → Nat → Int64))
  | 0, _, _, _, _, _, _ => none
  | n + 1, c0, w0, x1, x2, x4, x6 =>
  bd1 (md_X9_many c0 w0) (fun r30 => (if ((1 : Int32) <<< (r30 &&& 31)) ≤ x6 then bd1 (md_X9_fraction F c0 w0 x2 x4) (fun wv33 => some ((1 : Int32), c0, wv33)) else lt1 (if (x6 &&& ((c0 0) 5)) = 0 then (1 : Int64) else (0 : Int64)) (fun y40 => bd1 (md_X9_layNow c0 w0) (fun cv44 => ld_X9_hearings_93 F (ld_X9_hearings_56 F n) F cv44 w0 x1 x2 x4 x6 y40 (0 : Int32)))))
def ld_X9_hearings_27 (F : Nat) : Nat → (Nat → Nat → Int32) → (Nat → Nat → Int64) → (Int32) → (Int64) → (Int64) → (Int32) → Option (Int32 × (Nat → Nat → Int32) × (Nat → Nat → Int64))
  | 0, _, _, _, _, _, _ => none
  | n + 1, c0, w0, x1, x2, x4, x6 =>
  bd1 (md_X9_open c0 w0) (fun r46 => bd1 (md_X9_bits F r46) (fun r48 => (if r48 ≤ x6 then ld_X9_hearings_56 F F c0 w0 x1 x2 x4 (0 : Int32) else (ld_X9_hearings_27 F n) c0 w0 x1 x2 (x4 * (10 : Int64)) (x6 + (1 : Int32)))))
def md_X9_hearings (F : Nat) (c0 : Nat → Nat → Int32) (w0 : Nat → Nat → Int64) (p1 : Int32) : Option (Int32 × (Nat → Nat → Int32) × (Nat → Nat → Int64)) :=
  bd1 (md_X9_in p1.toInt64 (0 : Int64) (10 : Int64)) (fun r51 => (if r51 = 0 then bd2 (md_X9_bad c0 w0 (-2 : Int32)) (fun r54 cv55 => some (r54, cv55, w0)) else ld_X9_hearings_27 F F c0 w0 p1 (0 : Int64) (1 : Int64) (0 : Int32)))
def ld_X9_days_53 (F : Nat) (w0 : Nat → Nat → Int64) (k40 : (Nat → Nat → Int32) → (Int32) → (Int64) → (Int32) → (Int32) → Option (Int32 × (Nat → Nat → Int32))) : Nat → (Nat → Nat → Int32) → (Int32) → (Int64) → (Int32) → (Int32) → (Int32) → Option (Int32 × (Nat → Nat → Int32))
  | 0, _, _, _, _, _, _ => none
  | n + 1, c0, x2, x3, x5, x6, x7 =>
  bd1 (md_X9_many c0 w0) (fun r1 => (if r1 ≤ x7 then bd1 (md_X9_isWon c0 w0) (fun r4 => lt1 (if r4 = 0 then (0 : Int32) else (1 : Int32)) (fun y6 => k40 c0 x2 x3 (x5 + y6) (x6 + (1 : Int32)))) else bd1 (md_X9_has ((c0 0) 5) x7) (fun r10 => (if r10 = 0 then lt1 (((x3 * (1103515245 : Int64)) + (12345 : Int64)) - ((x3 * (1103515245 : Int64)) + (12345 : Int64)) / (2147483648 : Int64) * (2147483648 : Int64)) (fun y13 => bd1 (md_X9_goSaying c0 w0 x7) (fun cv15 => (if (lg_cmp ((y13 / (65536 : Int64)) - (y13 / (65536 : Int64)) / (2 : Int64) * (2 : Int64)) (1 : Int64)) = 0 then bd1 (md_X9_mayTo cv15 w0 x7) (fun r18 => (if r18 = 0 then (ld_X9_days_53 F w0 k40 n) cv15 x2 y13 x5 x6 (x7 + (1 : Int32)) else bd1 (md_X9_goObjecting cv15 w0) (fun cv21 => (ld_X9_days_53 F w0 k40 n) cv21 x2 y13 x5 x6 (x7 + (1 : Int32))))) else (ld_X9_days_53 F w0 k40 n) cv15 x2 y13 x5 x6 (x7 + (1 : Int32))))) else (ld_X9_days_53 F w0 k40 n) c0 x2 x3 x5 x6 (x7 + (1 : Int32))))))
def ld_X9_days_40 (F : Nat) (w0 : Nat → Nat → Int64) : Nat → (Nat → Nat → Int32) → (Int32) → (Int64) → (Int32) → (Int32) → Option (Int32 × (Nat → Nat → Int32))
  | 0, _, _, _, _, _ => none
  | n + 1, c0, x2, x3, x5, x6 =>
  (if x2 ≤ x6 then some (x5, c0) else bd1 (md_X9_layNow c0 w0) (fun cv27 => ld_X9_days_53 F w0 (ld_X9_days_40 F w0 n) F cv27 x2 x3 x5 x6 (0 : Int32)))
def jd_X9_days_24 (F : Nat) (w0 : Nat → Nat → Int64) (c0 : Nat → Nat → Int32) : Option (Int32 × (Nat → Nat → Int32)) :=
  bd2 (md_X9_bad c0 w0 (-2 : Int32)) (fun r29 cv30 => some (r29, cv30))
def md_X9_days (F : Nat) (c0 : Nat → Nat → Int32) (w0 : Nat → Nat → Int64) (p1 : Int32) (p2 : Int32) : Option (Int32 × (Nat → Nat → Int32)) :=
  bd1 (md_X9_in p1.toInt64 (0 : Int64) (999999 : Int64)) (fun r35 => (if r35 = 0 then jd_X9_days_24 F w0 c0 else bd1 (md_X9_in p2.toInt64 (0 : Int64) (60 : Int64)) (fun r38 => (if r38 = 0 then jd_X9_days_24 F w0 c0 else ld_X9_days_40 F w0 F c0 p2 p1.toInt64 (0 : Int32) (0 : Int32)))))
def md_X9_type (c0 : Nat → Nat → Int32) (w0 : Nat → Nat → Int64) (p1 : Int32) : Option (Int32 × (Nat → Nat → Int32)) :=
  bd1 (md_X9_in p1.toInt64 (0 : Int64) (127 : Int64)) (fun r1 => (if r1 = 0 then bd2 (md_X9_bad c0 w0 (-2 : Int32)) (fun r15 cv16 => some (r15, cv16)) else (if (c0 21 0) = (150 : Int32) then bd2 (md_X9_full c0 w0) (fun r9 cv10 => some (r9, cv10)) else (if inb (c0 21 0) 150 then some (((c0 21 0) + (1 : Int32)), (rs (rs c0 20 (upd (c0 20) (ix (c0 21 0)) p1)) 21 (fun _ => ((c0 21 0) + (1 : Int32))))) else none))))
def md_X9_clear (c0 : Nat → Nat → Int32) (w0 : Nat → Nat → Int64) : Option (Int32 × (Nat → Nat → Int32)) :=
  some ((c0 21 0), (rs c0 21 (fun _ => (0 : Int32))))
def md_X9_isSmall (p0 : Int32) : Option (Int32) :=
  bd1 (md_X9_in p0.toInt64 (97 : Int64) (122 : Int64)) (fun r1 => (if r1 = 0 ∨ r1 = 1 then some (r1) else none))
def md_X9_isFigure (p0 : Int32) : Option (Int32) :=
  bd1 (md_X9_in p0.toInt64 (48 : Int64) (57 : Int64)) (fun r1 => (if r1 = 0 ∨ r1 = 1 then some (r1) else none))
def jd_X9_lookAt_274 (F : Nat) (w0 : Nat → Nat → Int64) (c0 : Nat → Nat → Int32) : Option ((Nat → Nat → Int32)) :=
  lt1 (if (c0 24 0) = (2 : Int32) then (if (c0 23 0) ≤ (2 : Int32) then (c0 24 0) else (4 : Int32)) else (c0 24 0)) (fun y1 => some ((rs c0 24 (fun _ => y1))))
def ld_X9_lookAt_218 (F : Nat) (w0 : Nat → Nat → Int64) : Nat → (Nat → Nat → Int32) → (Int32) → Option ((Nat → Nat → Int32))
  | 0, _, _ => none
  | n + 1, c0, x4 =>
  (if (c0 23 0) ≤ x4 then jd_X9_lookAt_274 F w0 c0 else (if (2 : Int32) ≤ x4 then jd_X9_lookAt_274 F w0 c0 else (if (c0 24 0) = (2 : Int32) then (if inb ((c0 22 0) + x4) 150 then lt1 ((((10 : Int32) * (c0 25 0)) + ((c0 20) (ix ((c0 22 0) + x4)))) - (48 : Int32)) (fun y11 => (ld_X9_lookAt_218 F w0 n) (rs c0 25 (fun _ => y11)) (x4 + (1 : Int32))) else none) else jd_X9_lookAt_274 F w0 c0)))
def jd_X9_lookAt_193 (F : Nat) (w0 : Nat → Nat → Int64) (k136 : (Nat → Nat → Int32) → (Int32) → Option ((Nat → Nat → Int32))) (c0 : Nat → Nat → Int32) (s0 : Int32) : Option ((Nat → Nat → Int32)) :=
  lt1 (if s0 = 0 then (0 : Int32) else (1 : Int32)) (fun y13 => k136 (rs c0 23 (fun _ => ((c0 23 0) + y13))) s0)
def ld_X9_lookAt_136 (F : Nat) (w0 : Nat → Nat → Int64) : Nat → (Nat → Nat → Int32) → (Int32) → Option ((Nat → Nat → Int32))
  | 0, _, _ => none
  | n + 1, c0, x3 =>
  (if x3 = 0 then ld_X9_lookAt_218 F w0 F c0 (0 : Int32) else (if (c0 21 0) ≤ ((c0 22 0) + (c0 23 0)) then ld_X9_lookAt_218 F w0 F c0 (0 : Int32) else (if inb ((c0 22 0) + (c0 23 0)) 150 then lt1 ((c0 20) (ix ((c0 22 0) + (c0 23 0)))) (fun y20 => (if (c0 24 0) = (1 : Int32) then bd1 (md_X9_isSmall y20) (fun r25 => jd_X9_lookAt_193 F w0 (ld_X9_lookAt_136 F w0 n) c0 r25) else bd1 (md_X9_isFigure y20) (fun r23 => jd_X9_lookAt_193 F w0 (ld_X9_lookAt_136 F w0 n) c0 r23))) else none)))
def jd_X9_lookAt_114 (F : Nat) (w0 : Nat → Nat → Int64) (c0 : Nat → Nat → Int32) (s1 : Int32) : Option ((Nat → Nat → Int32)) :=
  lt1 (if (3 : Int32) ≤ s1 then (0 : Int32) else (1 : Int32)) (fun y27 => ld_X9_lookAt_136 F w0 F (rs (rs c0 23 (fun _ => (1 : Int32))) 24 (fun _ => s1)) y27)
def jd_X9_lookAt_43 (F : Nat) (w0 : Nat → Nat → Int64) (c0 : Nat → Nat → Int32) : Option ((Nat → Nat → Int32)) :=
  (if (c0 22 0) = (c0 21 0) then some ((rs (rs (rs c0 23 (fun _ => (0 : Int32))) 24 (fun _ => (0 : Int32))) 25 (fun _ => (0 : Int32)))) else (if inb (c0 22 0) 150 then bd1 (md_X9_isSmall ((c0 20) (ix (c0 22 0)))) (fun r33 => (if r33 = 0 then bd1 (md_X9_isFigure ((c0 20) (ix (c0 22 0)))) (fun r36 => (if r36 = 0 then (if ((c0 20) (ix (c0 22 0))) = (59 : Int32) then jd_X9_lookAt_114 F w0 (rs (rs (rs c0 23 (fun _ => (0 : Int32))) 24 (fun _ => (0 : Int32))) 25 (fun _ => (0 : Int32))) (3 : Int32) else jd_X9_lookAt_114 F w0 (rs (rs (rs c0 23 (fun _ => (0 : Int32))) 24 (fun _ => (0 : Int32))) 25 (fun _ => (0 : Int32))) (4 : Int32)) else jd_X9_lookAt_114 F w0 (rs (rs (rs c0 23 (fun _ => (0 : Int32))) 24 (fun _ => (0 : Int32))) 25 (fun _ => (0 : Int32))) (2 : Int32))) else jd_X9_lookAt_114 F w0 (rs (rs (rs c0 23 (fun _ => (0 : Int32))) 24 (fun _ => (0 : Int32))) 25 (fun _ => (0 : Int32))) (1 : Int32))) else none))
def ld_X9_lookAt_5 (F : Nat) (w0 : Nat → Nat → Int64) : Nat → (Nat → Nat → Int32) → Option ((Nat → Nat → Int32))
  | 0, _ => none
  | n + 1, c0 =>
  (if (c0 21 0) ≤ (c0 22 0) then jd_X9_lookAt_43 F w0 c0 else (if inb (c0 22 0) 150 then (if ((c0 20) (ix (c0 22 0))) = (32 : Int32) then (ld_X9_lookAt_5 F w0 n) (rs c0 22 (fun _ => ((c0 22 0) + (1 : Int32)))) else jd_X9_lookAt_43 F w0 c0) else none))
def md_X9_lookAt (F : Nat) (c0 : Nat → Nat → Int32) (w0 : Nat → Nat → Int64) (p1 : Int32) : Option ((Nat → Nat → Int32)) :=
  ld_X9_lookAt_5 F w0 F (rs c0 22 (fun _ => p1))
def md_X9_goBehind (F : Nat) (c0 : Nat → Nat → Int32) (w0 : Nat → Nat → Int64) : Option ((Nat → Nat → Int32)) :=
  bd1 (md_X9_lookAt F c0 w0 ((c0 22 0) + (c0 23 0))) (fun cv1 => some (cv1))
def ld_X9_spells_26 (F : Nat) (c0 : Nat → Nat → Int32) (w0 : Nat → Nat → Int64) : Nat → (Int32) → (Int32) → (Int32) → (Int32) → (Int32) → (Int32) → (Int32) → (Int32) → (Int32) → Option (Int32)
  | 0, _, _, _, _, _, _, _, _, _ => none
  | n + 1, x1, x2, x3, x4, x5, x6, x7, x8, x9 =>
  (if x1 ≤ x9 then (if x8 = 0 ∨ x8 = 1 then some (x8) else none) else (if x8 = 0 then (if x8 = 0 ∨ x8 = 1 then some (x8) else none) else (if inb ((c0 22 0) + x9) 150 then lt1 (if x9 = 0 then x2 else (if x9 = (1 : Int32) then x3 else (if x9 = (2 : Int32) then x4 else (if x9 = (3 : Int32) then x5 else (if x9 = (4 : Int32) then x6 else x7))))) (fun y8 => lt1 (if ((c0 20) (ix ((c0 22 0) + x9))) = y8 then (1 : Int32) else (0 : Int32)) (fun y16 => (ld_X9_spells_26 F c0 w0 n) x1 x2 x3 x4 x5 x6 x7 y16 (x9 + (1 : Int32)))) else none)))
def md_X9_spells (F : Nat) (c0 : Nat → Nat → Int32) (w0 : Nat → Nat → Int64) (p1 : Int32) (p2 : Int32) (p3 : Int32) (p4 : Int32) (p5 : Int32) (p6 : Int32) (p7 : Int32) : Option (Int32) :=
  lt1 (if (c0 24 0) = (1 : Int32) then (if (c0 23 0) = p1 then (1 : Int32) else (0 : Int32)) else (0 : Int32)) (fun y20 => ld_X9_spells_26 F c0 w0 F p1 p2 p3 p4 p5 p6 p7 y20 (0 : Int32))
def md_X9_takes (F : Nat) (c0 : Nat → Nat → Int32) (w0 : Nat → Nat → Int64) (p1 : Int32) (p2 : Int32) (p3 : Int32) : Option (Int32 × (Nat → Nat → Int32)) :=
  (if (c0 24 0) = (2 : Int32) then bd1 (md_X9_in (c0 25 0).toInt64 p2.toInt64 p3.toInt64) (fun r5 => (if r5 = 0 then some ((0 : Int32), c0) else (if inb p1 3 then bd1 (md_X9_goBehind F (rs c0 27 (upd (c0 27) (ix p1) (c0 25 0))) w0) (fun cv9 => some ((1 : Int32), cv9)) else none))) else some ((0 : Int32), c0))
def md_X9_takesBows (F : Nat) (c0 : Nat → Nat → Int32) (w0 : Nat → Nat → Int64) : Option (Int32 × (Nat → Nat → Int32)) :=
  bd1 (md_X9_goBehind F c0 w0) (fun cv1 => bd2 (md_X9_takes F cv1 w0 (0 : Int32) (0 : Int32) (1 : Int32)) (fun r3 cv4 => (if r3 = 0 then some ((0 : Int32), cv4) else bd2 (md_X9_takes F cv4 w0 (1 : Int32) (0 : Int32) (3 : Int32)) (fun r10 cv11 => (if r10 = 0 then some ((0 : Int32), cv11) else (if inb ((12 : Int32) + ((cv11 27) 0)) 194 then some ((1 : Int32), (rs cv11 0 (upd (cv11 0) (ix ((12 : Int32) + ((cv11 27) 0))) ((cv11 27) 1)))) else none))))))
def md_X9_takesPoint (F : Nat) (c0 : Nat → Nat → Int32) (w0 : Nat → Nat → Int64) : Option (Int32 × (Nat → Nat → Int32)) :=
  bd1 (md_X9_many c0 w0) (fun r1 => (if r1 = (6 : Int32) then some ((0 : Int32), c0) else bd1 (md_X9_goBehind F c0 w0) (fun cv4 => bd2 (md_X9_takes F cv4 w0 (0 : Int32) (0 : Int32) (5 : Int32)) (fun r6 cv7 => (if r6 = 0 then some ((0 : Int32), cv7) else bd2 (md_X9_takes F cv7 w0 (1 : Int32) (1 : Int32) (9 : Int32)) (fun r13 cv14 => (if r13 = 0 then some ((0 : Int32), cv14) else bd2 (md_X9_takes F cv14 w0 (2 : Int32) (0 : Int32) (3 : Int32)) (fun r20 cv21 => (if r20 = 0 then some ((0 : Int32), cv21) else bd1 (md_X9_layPoint (fun _ => (cv21 0)) ((cv21 27) 0) ((cv21 27) 1) ((cv21 27) 2)) (fun cv24 => some ((1 : Int32), (rs cv21 0 (cv24 0)))))))))))))
def md_X9_goSays (c0 : Nat → Nat → Int32) (w0 : Nat → Nat → Int64) (p1 : Int32) : Option ((Nat → Nat → Int32)) :=
  bd1 (md_X9_meritBy c0 w0 p1 ((c0 0) 14) ((c0 0) 15) ((c0 0) 16)) (fun r1 => lt1 (((upd (upd (c0 0) 15 r1) 5 (((upd (c0 0) 15 r1) 5) ||| ((1 : Int32) <<< (p1 &&& 31)))) 16) + (1 : Int32)) (fun y3 => some ((rs c0 0 (upd (upd (upd (upd (c0 0) 15 r1) 5 (((upd (c0 0) 15 r1) 5) ||| ((1 : Int32) <<< (p1 &&& 31)))) 16 y3) 17 p1)))))
def md_X9_goObjects (c0 : Nat → Nat → Int32) (w0 : Nat → Nat → Int64) : Option ((Nat → Nat → Int32)) :=
  (if inb ((12 : Int32) + (((c0 0) 16) - ((c0 0) 16) / (2 : Int32) * (2 : Int32))) 194 then lt1 (((c0 0) (ix ((12 : Int32) + (((c0 0) 16) - ((c0 0) 16) / (2 : Int32) * (2 : Int32))))) - (1 : Int32)) (fun y2 => (if inb ((12 : Int32) + (((c0 0) 16) - ((c0 0) 16) / (2 : Int32) * (2 : Int32))) 194 then (if inb ((6 : Int32) + ((upd (c0 0) (ix ((12 : Int32) + (((c0 0) 16) - ((c0 0) 16) / (2 : Int32) * (2 : Int32)))) y2) 17)) 194 then lt1 (((upd (c0 0) (ix ((12 : Int32) + (((c0 0) 16) - ((c0 0) 16) / (2 : Int32) * (2 : Int32)))) y2) (ix ((6 : Int32) + ((upd (c0 0) (ix ((12 : Int32) + (((c0 0) 16) - ((c0 0) 16) / (2 : Int32) * (2 : Int32)))) y2) 17)))) - (1 : Int32)) (fun y6 => (if inb ((6 : Int32) + ((upd (c0 0) (ix ((12 : Int32) + (((c0 0) 16) - ((c0 0) 16) / (2 : Int32) * (2 : Int32)))) y2) 17)) 194 then lt1 ((1 : Int32) - ((upd (upd (c0 0) (ix ((12 : Int32) + (((c0 0) 16) - ((c0 0) 16) / (2 : Int32) * (2 : Int32)))) y2) (ix ((6 : Int32) + ((upd (c0 0) (ix ((12 : Int32) + (((c0 0) 16) - ((c0 0) 16) / (2 : Int32) * (2 : Int32)))) y2) 17))) y6) 14)) (fun y9 => some ((rs c0 0 (upd (upd (upd (upd (c0 0) (ix ((12 : Int32) + (((c0 0) 16) - ((c0 0) 16) / (2 : Int32) * (2 : Int32)))) y2) (ix ((6 : Int32) + ((upd (c0 0) (ix ((12 : Int32) + (((c0 0) 16) - ((c0 0) 16) / (2 : Int32) * (2 : Int32)))) y2) 17))) y6) 14 y9) 17 (-1 : Int32))))) else none)) else none) else none)) else none)
def md_X9_takesSaying (F : Nat) (c0 : Nat → Nat → Int32) (w0 : Nat → Nat → Int64) : Option (Int32 × (Nat → Nat → Int32)) :=
  bd1 (md_X9_goBehind F c0 w0) (fun cv1 => (if (cv1 24 0) = (2 : Int32) then bd1 (md_X9_isPoint cv1 w0 (cv1 25 0)) (fun r7 => (if r7 = 0 then some ((0 : Int32), cv1) else bd1 (md_X9_has ((cv1 0) 5) (cv1 25 0)) (fun r13 => (if r13 = 0 then bd1 (md_X9_goSays cv1 w0 (cv1 25 0)) (fun cv16 => bd1 (md_X9_goBehind F cv16 w0) (fun cv18 => some ((1 : Int32), cv18))) else some ((0 : Int32), cv1))))) else some ((0 : Int32), cv1)))
def md_X9_takesObjecting (F : Nat) (c0 : Nat → Nat → Int32) (w0 : Nat → Nat → Int64) : Option (Int32 × (Nat → Nat → Int32)) :=
  bd1 (md_X9_may c0 w0) (fun r1 => (if r1 = 0 then some ((0 : Int32), c0) else bd1 (md_X9_goObjects c0 w0) (fun cv4 => bd1 (md_X9_goBehind F cv4 w0) (fun cv6 => some ((1 : Int32), cv6)))))
def md_X9_takesItem (F : Nat) (c0 : Nat → Nat → Int32) (w0 : Nat → Nat → Int64) : Option (Int32 × (Nat → Nat → Int32)) :=
  bd1 (md_X9_spells F c0 w0 (4 : Int32) (98 : Int32) (111 : Int32) (119 : Int32) (115 : Int32) (0 : Int32) (0 : Int32)) (fun r1 => (if r1 = 0 then bd1 (md_X9_spells F c0 w0 (5 : Int32) (112 : Int32) (111 : Int32) (105 : Int32) (110 : Int32) (116 : Int32) (0 : Int32)) (fun r4 => (if r4 = 0 then bd1 (md_X9_spells F c0 w0 (3 : Int32) (115 : Int32) (97 : Int32) (121 : Int32) (0 : Int32) (0 : Int32) (0 : Int32)) (fun r7 => (if r7 = 0 then bd1 (md_X9_spells F c0 w0 (6 : Int32) (111 : Int32) (98 : Int32) (106 : Int32) (101 : Int32) (99 : Int32) (116 : Int32)) (fun r10 => (if r10 = 0 then some ((0 : Int32), c0) else bd2 (md_X9_takesObjecting F c0 w0) (fun r16 cv17 => (if r16 = 0 then some ((0 : Int32), cv17) else some ((1 : Int32), cv17))))) else bd2 (md_X9_takesSaying F c0 w0) (fun r26 cv27 => (if r26 = 0 ∨ r26 = 1 then some (r26, cv27) else none)))) else bd2 (md_X9_takesPoint F c0 w0) (fun r33 cv34 => (if r33 = 0 ∨ r33 = 1 then some (r33, cv34) else none)))) else bd2 (md_X9_takesBows F c0 w0) (fun r40 cv41 => (if r40 = 0 ∨ r40 = 1 then some (r40, cv41) else none))))
def jd_X9_readInto_87 (F : Nat) (w0 : Nat → Nat → Int64) (c0 : Nat → Nat → Int32) : Option (Int32 × (Nat → Nat → Int32)) :=
  some (((-10 : Int32) - (c0 22 0)), c0)
def ld_X9_readInto_65 (F : Nat) (w0 : Nat → Nat → Int64) : Nat → (Nat → Nat → Int32) → (Int32) → Option (Int32 × (Nat → Nat → Int32))
  | 0, _, _ => none
  | n + 1, c0, x1 =>
  (if (c0 24 0) = 0 then some (x1, c0) else bd2 (md_X9_takesItem F c0 w0) (fun r8 cv9 => (if r8 = 0 then jd_X9_readInto_87 F w0 cv9 else (if (cv9 24 0) = (3 : Int32) then bd1 (md_X9_goBehind F cv9 w0) (fun cv13 => (ld_X9_readInto_65 F w0 n) cv13 (x1 + (1 : Int32))) else jd_X9_readInto_87 F w0 cv9))))
def jd_X9_readInto_32 (F : Nat) (w0 : Nat → Nat → Int64) (c0 : Nat → Nat → Int32) : Option (Int32 × (Nat → Nat → Int32)) :=
  some (((-10 : Int32) - (c0 22 0)), c0)
def md_X9_readInto (F : Nat) (c0 : Nat → Nat → Int32) (w0 : Nat → Nat → Int64) : Option (Int32 × (Nat → Nat → Int32)) :=
  bd1 (md_X9_goBehind F c0 w0) (fun cv18 => bd2 (md_X9_takes F cv18 w0 (0 : Int32) (0 : Int32) (5 : Int32)) (fun r20 cv21 => (if r20 = 0 then jd_X9_readInto_32 F w0 cv21 else bd2 (md_X9_takes F cv21 w0 (1 : Int32) (0 : Int32) (5 : Int32)) (fun r24 cv25 => (if r24 = 0 then jd_X9_readInto_32 F w0 cv25 else (if (cv25 24 0) = (3 : Int32) then bd1 (md_X9_goBehind F cv25 w0) (fun cv29 => bd1 (md_X9_begin F (fun _ => (cv29 0)) ((cv29 27) 0) ((cv29 27) 1)) (fun cv31 => ld_X9_readInto_65 F w0 F (rs cv29 0 (cv31 0)) (1 : Int32))) else jd_X9_readInto_32 F w0 cv25))))))
def ld_X9_read_64 (F : Nat) (w0 : Nat → Nat → Int64) : Nat → (Nat → Nat → Int32) → (Int32) → (Int32) → Option (Int32 × (Nat → Nat → Int32))
  | 0, _, _, _ => none
  | n + 1, c0, x1, x2 =>
  (if (90 : Int32) ≤ x2 then some (x1, c0) else (if 0 ≤ x1 then some (x1, c0) else (if inb x2 90 then (if inb x2 194 then (ld_X9_read_64 F w0 n) (rs c0 0 (upd (c0 0) (ix x2) ((c0 26) (ix x2)))) x1 (x2 + (1 : Int32)) else none) else none)))
def ld_X9_read_33 (F : Nat) (w0 : Nat → Nat → Int64) : Nat → (Nat → Nat → Int32) → (Int32) → Option (Int32 × (Nat → Nat → Int32))
  | 0, _, _ => none
  | n + 1, c0, x1 =>
  (if (90 : Int32) ≤ x1 then bd2 (md_X9_readInto F c0 w0) (fun r12 cv13 => ld_X9_read_64 F w0 F cv13 r12 (0 : Int32)) else (if inb x1 194 then (if inb x1 90 then (ld_X9_read_33 F w0 n) (rs c0 26 (upd (c0 26) (ix x1) ((c0 0) (ix x1)))) (x1 + (1 : Int32)) else none) else none))
def md_X9_read (F : Nat) (c0 : Nat → Nat → Int32) (w0 : Nat → Nat → Int64) : Option (Int32 × (Nat → Nat → Int32)) :=
  bd1 (md_X9_lookAt F c0 w0 (0 : Int32)) (fun cv17 => bd1 (md_X9_spells F cv17 w0 (4 : Int32) (99 : Int32) (97 : Int32) (115 : Int32) (101 : Int32) (0 : Int32) (0 : Int32)) (fun r19 => (if r19 = 0 then some (((-10 : Int32) - (cv17 22 0)), cv17) else ld_X9_read_33 F w0 F cv17 (0 : Int32))))
def md_X9_part (c0 : Nat → Nat → Int32) (w0 : Nat → Nat → Int64) (p1 : Int32) : Option (Int64 × (Nat → Nat → Int32)) :=
  (if p1 = 0 then some ((w0 4 0), c0) else (if p1 = (1 : Int32) then some ((w0 5 0), c0) else bd2 (md_X9_bad c0 w0 (-2 : Int32)) (fun r3 cv4 => some (r3.toInt64, cv4))))
def ld_X9_image_19 (F : Nat) (w0 : Nat → Nat → Int64) : Nat → (Nat → Nat → Int32) → (Int32) → (Int32) → Option (Int32 × (Nat → Nat → Int32))
  | 0, _, _, _ => none
  | n + 1, c0, x1, x2 =>
  (if (194 : Int32) ≤ x2 then (if inb x1 2 then some ((1 : Int32), (rs c0 2 (upd (c0 2) (ix x1) (1 : Int32)))) else none) else (if inb x2 194 then (if inb (((194 : Int32) * x1) + x2) 388 then (ld_X9_image_19 F w0 n) (rs c0 1 (upd (c0 1) (ix (((194 : Int32) * x1) + x2)) ((c0 0) (ix x2)))) x1 (x2 + (1 : Int32)) else none) else none))
def md_X9_image (F : Nat) (c0 : Nat → Nat → Int32) (w0 : Nat → Nat → Int64) (p1 : Int32) : Option (Int32 × (Nat → Nat → Int32)) :=
  bd1 (md_X9_in p1.toInt64 (0 : Int64) (1 : Int64)) (fun r8 => (if r8 = 0 then bd2 (md_X9_bad c0 w0 (-2 : Int32)) (fun r11 cv12 => some (r11, cv12)) else ld_X9_image_19 F w0 F c0 p1 (0 : Int32)))
def ld_X9_from_35 (F : Nat) (w0 : Nat → Nat → Int64) : Nat → (Nat → Nat → Int32) → (Int32) → (Int32) → Option (Int32 × (Nat → Nat → Int32))
  | 0, _, _, _ => none
  | n + 1, c0, x1, x2 =>
  (if (194 : Int32) ≤ x2 then some ((1 : Int32), c0) else (if inb (((194 : Int32) * x1) + x2) 388 then (if inb x2 194 then (ld_X9_from_35 F w0 n) (rs c0 0 (upd (c0 0) (ix x2) ((c0 1) (ix (((194 : Int32) * x1) + x2))))) x1 (x2 + (1 : Int32)) else none) else none))
def md_X9_from (F : Nat) (c0 : Nat → Nat → Int32) (w0 : Nat → Nat → Int64) (p1 : Int32) : Option (Int32 × (Nat → Nat → Int32)) :=
  bd1 (md_X9_in p1.toInt64 (0 : Int64) (1 : Int64)) (fun r7 => (if r7 = 0 then bd2 (md_X9_bad c0 w0 (-2 : Int32)) (fun r18 cv19 => some (r18, cv19)) else (if inb p1 2 then (if ((c0 2) (ix p1)) = 0 then bd2 (md_X9_no c0 w0 (-3 : Int32)) (fun r12 cv13 => some (r12, cv13)) else ld_X9_from_35 F w0 F c0 p1 (0 : Int32)) else none)))
def md_X9_status (c0 : Nat → Nat → Int32) (w0 : Nat → Nat → Int64) (p1 : Int32) : Option (Int32 × (Nat → Nat → Int32)) :=
  bd1 (md_X9_in p1.toInt64 (0 : Int64) (2 : Int64)) (fun r1 => (if r1 = 0 then bd2 (md_X9_bad c0 w0 (-1 : Int32)) (fun r4 cv5 => some (r4, cv5)) else (if inb p1 3 then some (((c0 3) (ix p1)), c0) else none)))
def jd_X9_counted_105 (F : Nat) (c0 : Nat → Nat → Int32) (w0 : Nat → Nat → Int64) (x1 : Int32) : Option (Int32) :=
  (if inb (((1 : Int32) + x1) - (3 : Int32)) 194 then some (((c0 0) (ix (((1 : Int32) + x1) - (3 : Int32))))) else none)
def ld_X9_counted_4 (F : Nat) (c0 : Nat → Nat → Int32) (w0 : Nat → Nat → Int64) : Nat → (Int32) → (Int32) → (Int32) → Option (Int32)
  | 0, _, _, _ => none
  | n + 1, x1, x2, x3 =>
  bd1 (md_X9_many c0 w0) (fun r3 => (if r3 ≤ x3 then (if x1 = (0 : Int32) then bd1 (md_X9_many c0 w0) (fun r7 => some (r7)) else (if x1 = (1 : Int32) then bd1 (md_X9_bits F ((c0 0) 5)) (fun r11 => some (r11)) else (if x1 = (2 : Int32) then some (x2) else (if x1 = (3 : Int32) then jd_X9_counted_105 F c0 w0 x1 else (if x1 = (4 : Int32) then jd_X9_counted_105 F c0 w0 x1 else (if x1 = (5 : Int32) then jd_X9_counted_105 F c0 w0 x1 else (if x1 = (6 : Int32) then some (((c0 0) 4)) else (if x1 = (7 : Int32) then some ((c0 21 0)) else jd_X9_counted_105 F c0 w0 x1)))))))) else (if inb ((6 : Int32) + x3) 194 then lt1 (x2 + ((c0 0) (ix ((6 : Int32) + x3)))) (fun y24 => (ld_X9_counted_4 F c0 w0 n) x1 y24 (x3 + (1 : Int32))) else none)))
def md_X9_counted (F : Nat) (c0 : Nat → Nat → Int32) (w0 : Nat → Nat → Int64) (p1 : Int32) : Option (Int32) :=
  ld_X9_counted_4 F c0 w0 F p1 (0 : Int32) (0 : Int32)
def md_X9_count (F : Nat) (c0 : Nat → Nat → Int32) (w0 : Nat → Nat → Int64) (p1 : Int32) : Option (Int32 × (Nat → Nat → Int32)) :=
  bd1 (md_X9_in p1.toInt64 (0 : Int64) (7 : Int64)) (fun r1 => (if r1 = 0 then bd2 (md_X9_bad c0 w0 (-2 : Int32)) (fun r4 cv5 => some (r4, cv5)) else bd1 (md_X9_counted F c0 w0 p1) (fun r10 => some (r10, c0))))
def ld_X9_sums_6 (F : Nat) (c0 : Nat → Nat → Int32) (w0 : Nat → Nat → Int64) : Nat → (Int32) → (Int32) → (Int64) → (Int32) → Option (Int64)
  | 0, _, _, _, _ => none
  | n + 1, x3, x4, x5, x7 =>
  (if x4 ≤ x7 then some (x5) else (if inb (x3 + x7) 194 then lt1 (((31 : Int64) * x5) + ((c0 0) (ix (x3 + x7))).toInt64) (fun y4 => (ld_X9_sums_6 F c0 w0 n) x3 x4 y4 (x7 + (1 : Int32))) else none))
def md_X9_sums (F : Nat) (c0 : Nat → Nat → Int32) (w0 : Nat → Nat → Int64) (p1 : Int64) (p3 : Int32) (p4 : Int32) : Option (Int64) :=
  ld_X9_sums_6 F c0 w0 F p3 p4 p1 (0 : Int32)
def ld_X9_digest_104 (F : Nat) (c0 : Nat → Nat → Int32) (w0 : Nat → Nat → Int64) : Nat → (Int64) → (Int32) → Option (Int64)
  | 0, _, _ => none
  | n + 1, x1, x3 =>
  bd1 (md_X9_many c0 w0) (fun r1 => (if r1 ≤ x3 then bd1 (md_X9_sums F c0 w0 x1 (32 : Int32) ((c0 0) 1)) (fun r4 => bd1 (md_X9_sums F c0 w0 r4 (36 : Int32) ((5 : Int32) * ((c0 0) 2))) (fun r6 => bd1 (md_X9_sums F c0 w0 r6 (66 : Int32) ((4 : Int32) * ((c0 0) 3))) (fun r8 => some ((((31 : Int64) * (((31 : Int64) * r8) + (w0 4 0))) + (w0 5 0)))))) else (if inb ((18 : Int32) + x3) 194 then (if inb ((24 : Int32) + x3) 194 then lt1 (((31 : Int64) * (((31 : Int64) * x1) + ((c0 0) (ix ((18 : Int32) + x3))).toInt64)) + ((c0 0) (ix ((24 : Int32) + x3))).toInt64) (fun y13 => (if inb ((6 : Int32) + x3) 194 then lt1 (((31 : Int64) * (((31 : Int64) * y13) + ((c0 0) (ix ((6 : Int32) + x3))).toInt64)) + ((((c0 0) 5) >>> (x3 &&& 31)) &&& (1 : Int32)).toInt64) (fun y16 => (ld_X9_digest_104 F c0 w0 n) y16 (x3 + (1 : Int32))) else none)) else none) else none)))
def ld_X9_digest_59 (F : Nat) (c0 : Nat → Nat → Int32) (w0 : Nat → Nat → Int64) : Nat → (Int64) → (Int32) → Option (Int64)
  | 0, _, _ => none
  | n + 1, x1, x3 =>
  (if (2 : Int32) ≤ x3 then ld_X9_digest_104 F c0 w0 F x1 (0 : Int32) else (if inb ((30 : Int32) + x3) 194 then (if inb ((12 : Int32) + x3) 194 then lt1 (((31 : Int64) * (((31 : Int64) * x1) + ((c0 0) (ix ((30 : Int32) + x3))).toInt64)) + ((c0 0) (ix ((12 : Int32) + x3))).toInt64) (fun y21 => (ld_X9_digest_59 F c0 w0 n) y21 (x3 + (1 : Int32))) else none) else none))
def ld_X9_digest_33 (F : Nat) (c0 : Nat → Nat → Int32) (w0 : Nat → Nat → Int64) : Nat → (Int64) → (Int32) → Option (Int64)
  | 0, _, _ => none
  | n + 1, x1, x3 =>
  (if (5 : Int32) ≤ x3 then ld_X9_digest_59 F c0 w0 F x1 (0 : Int32) else bd1 (md_X9_toldNow c0 w0 x3) (fun r24 => lt1 (((31 : Int64) * x1) + r24.toInt64) (fun y26 => (ld_X9_digest_33 F c0 w0 n) y26 (x3 + (1 : Int32)))))
def ld_X9_digest_6 (F : Nat) (c0 : Nat → Nat → Int32) (w0 : Nat → Nat → Int64) : Nat → (Int64) → (Int32) → Option (Int64)
  | 0, _, _ => none
  | n + 1, x1, x3 =>
  (if (8 : Int32) ≤ x3 then ld_X9_digest_33 F c0 w0 F x1 (0 : Int32) else bd1 (md_X9_counted F c0 w0 x3) (fun r29 => lt1 (((31 : Int64) * x1) + r29.toInt64) (fun y31 => (ld_X9_digest_6 F c0 w0 n) y31 (x3 + (1 : Int32)))))
def md_X9_digest (F : Nat) (c0 : Nat → Nat → Int32) (w0 : Nat → Nat → Int64) : Option (Int64) :=
  ld_X9_digest_6 F c0 w0 F (1597 : Int64) (0 : Int32)
