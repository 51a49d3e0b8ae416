def Arrays_fill_b5 (N : Nat) (kh5 : (Nat → Int32) → Int32 → Option ((Nat → Int32))) (n0 : Nat) (f0 : Nat → Int32) (v1 : Int32) (v2 : Int32) (v3 : Int32) : Option ((Nat → Int32)) :=
  if v3 ≤ v2 then (some (f0)) else (zck v2 n0 (kh5 (upd f0 (Int32.toNatClampNeg v2) v1) (v2 + 1)))
def Arrays_fill_h5 (N : Nat) (n0 : Nat) (v1 : Int32) (v3 : Int32) : Nat → (Nat → Int32) → Int32 → Option ((Nat → Int32))
  | 0 => fun _ _ => none
  | n + 1 => fun f0 v2 => Arrays_fill_b5 N (Arrays_fill_h5 N n0 v1 v3 n) n0 f0 v1 v2 v3
theorem Arrays_fill_h5_s (N : Nat) (n0 : Nat) (v1 : Int32) (v3 : Int32) (n : Nat) (f0 : (Nat → Int32)) (v2 : Int32) : Arrays_fill_h5 N n0 v1 v3 (n + 1) f0 v2 = Arrays_fill_b5 N (Arrays_fill_h5 N n0 v1 v3 n) n0 f0 v1 v2 v3 := rfl
def Arrays_fill_b0 (N : Nat) (n0 : Nat) (f0 : Nat → Int32) (v1 : Int32) : Option ((Nat → Int32)) :=
  Arrays_fill_h5 N n0 v1 (Int32.ofNat n0) N f0 0
def Arrays_fill (N : Nat) (n0 : Nat) (f0 : Nat → Int32) (v1 : Int32) : Option ((Nat → Int32)) := Arrays_fill_b0 N n0 f0 v1
def Entries_isSound_b0 (N : Nat) (s0 : zSt) (v1 : Int32) : Option (Int32) :=
  zck v1 40 (if ((zA s0 2) (Int32.toNatClampNeg v1)) = (-1) then (some (0)) else (some (1)))
def Entries_isSound (N : Nat) (s0 : zSt) (v1 : Int32) : Option (Int32) := Entries_isSound_b0 N s0 v1
def Entries_counts_b30 (N : Nat) (s0 : zSt) : Option (Int32) :=
  some (1)
def Entries_counts_b0 (N : Nat) (s0 : zSt) (v1 : Int32) (v2 : Int32) : Option (Int32) :=
  zck v1 40 (if v2 < ((zA s0 6) (Int32.toNatClampNeg v1)) then (some (0)) else (zck v1 40 (if ((zA s0 7) (Int32.toNatClampNeg v1)) = (-1) then (Entries_counts_b30 N s0) else (zck v1 40 (if ((zA s0 7) (Int32.toNatClampNeg v1)) ≤ v2 then (some (0)) else (Entries_counts_b30 N s0))))))
def Entries_counts (N : Nat) (s0 : zSt) (v1 : Int32) (v2 : Int32) : Option (Int32) := Entries_counts_b0 N s0 v1 v2
def Bounds_has_b0 (N : Nat) (s0 : zSt) (v1 : Int32) (v2 : Int32) : Option (Int32) :=
  zck v1 4 (if ((((zA s0 1) (Int32.toNatClampNeg v1)) >>> (v2 &&& 31)) &&& 1) = 1 then (some (1)) else (some (0)))
def Bounds_has (N : Nat) (s0 : zSt) (v1 : Int32) (v2 : Int32) : Option (Int32) := Bounds_has_b0 N s0 v1 v2
def Math_max_b0 (N : Nat) (v0 : Int32) (v1 : Int32) : Option (Int32) :=
  if v0 < v1 then (some (v1)) else (some (v0))
def Math_max (N : Nat) (v0 : Int32) (v1 : Int32) : Option (Int32) := Math_max_b0 N v0 v1
def Math_min_b0 (N : Nat) (v0 : Int32) (v1 : Int32) : Option (Int32) :=
  if v1 < v0 then (some (v1)) else (some (v0))
def Math_min (N : Nat) (v0 : Int32) (v1 : Int32) : Option (Int32) := Math_min_b0 N v0 v1
def Bounds_narrow_b89 (N : Nat) (s0 : zSt) (s1 : zSt) (v2 : Int32) (v3 : Int32) (v4 : Int32) (v5 : Int32) : Option (zSt) :=
  zck v5 48 (zck v2 40 ((Math_max N ((zA s0 4) (Int32.toNatClampNeg v5)) ((zA s1 4) (Int32.toNatClampNeg v2))).bind (fun z3 => zck v5 48 (zck v5 48 (zck v2 40 ((Math_min N ((zA s0 5) (Int32.toNatClampNeg v5)) ((zA s1 5) (Int32.toNatClampNeg v2))).bind (fun z8 => zck v5 48 (zck v3 4 (zck v3 4 (some ((zpI (zsA (zsA (zsA s0 4 (upd (zA s0 4) (Int32.toNatClampNeg v5) z3)) 5 (upd (zA s0 5) (Int32.toNatClampNeg v5) z8)) 1 (upd (zA s0 1) (Int32.toNatClampNeg v3) (((zA s0 1) (Int32.toNatClampNeg v3)) ||| ((1 : Int32) <<< (v4 &&& 31))))) 0 ((zI s0 0) ||| ((1 : Int32) <<< (v4 &&& 31)))))))))))))))
def Bounds_narrow_b61 (N : Nat) (s0 : zSt) (s1 : zSt) (v2 : Int32) (v3 : Int32) (v4 : Int32) (v5 : Int32) : Option (zSt) :=
  (Bounds_has N s0 v3 v4).bind (fun z1 => if z1 = 0 then (zck v5 48 (zck v5 48 (Bounds_narrow_b89 N (zsA (zsA s0 4 (upd (zA s0 4) (Int32.toNatClampNeg v5) 0)) 5 (upd (zA s0 5) (Int32.toNatClampNeg v5) 999)) s1 v2 v3 v4 v5))) else (Bounds_narrow_b89 N s0 s1 v2 v3 v4 v5))
def Bounds_narrow_b0 (N : Nat) (s0 : zSt) (s1 : zSt) (v2 : Int32) : Option (zSt) :=
  zck v2 40 (zck v2 40 (zck ((zA s1 2) (Int32.toNatClampNeg v2)) 4 (if ((zA s0 1) (Int32.toNatClampNeg ((zA s1 2) (Int32.toNatClampNeg v2)))) = 0 then (if 4 ≤ (zI s0 2) then (Bounds_narrow_b61 N s0 s1 v2 ((zA s1 2) (Int32.toNatClampNeg v2)) ((zA s1 3) (Int32.toNatClampNeg v2)) ((((zA s1 2) (Int32.toNatClampNeg v2)) * 12) + ((zA s1 3) (Int32.toNatClampNeg v2)))) else (zck (zI s0 2) 4 (Bounds_narrow_b61 N (zpI (zsA s0 3 (upd (zA s0 3) (Int32.toNatClampNeg (zI s0 2)) ((zA s1 2) (Int32.toNatClampNeg v2)))) 2 ((zI s0 2) + 1)) s1 v2 ((zA s1 2) (Int32.toNatClampNeg v2)) ((zA s1 3) (Int32.toNatClampNeg v2)) ((((zA s1 2) (Int32.toNatClampNeg v2)) * 12) + ((zA s1 3) (Int32.toNatClampNeg v2)))))) else (Bounds_narrow_b61 N s0 s1 v2 ((zA s1 2) (Int32.toNatClampNeg v2)) ((zA s1 3) (Int32.toNatClampNeg v2)) ((((zA s1 2) (Int32.toNatClampNeg v2)) * 12) + ((zA s1 3) (Int32.toNatClampNeg v2)))))))
def Bounds_narrow (N : Nat) (s0 : zSt) (s1 : zSt) (v2 : Int32) : Option (zSt) := Bounds_narrow_b0 N s0 s1 v2
def Bounds_gather_b67 (N : Nat) (kh21 : zSt → Int32 → Option (zSt)) (s0 : zSt) (s1 : zSt) (v2 : Int32) (v3 : Int32) (v4 : Int32) : Option (zSt) :=
  kh21 s0 (v4 + 1)
def Bounds_gather_b21 (N : Nat) (kh21 : zSt → Int32 → Option (zSt)) (s0 : zSt) (s1 : zSt) (v2 : Int32) (v3 : Int32) (v4 : Int32) : Option (zSt) :=
  if (zI s1 0) ≤ v4 then (some (s0)) else ((Entries_isSound N s1 v4).bind (fun z2 => if z2 = 0 then (Bounds_gather_b67 N kh21 s0 s1 v2 v3 v4) else (zck v4 40 (if ((zA s1 1) (Int32.toNatClampNeg v4)) = v2 then ((Entries_counts N s1 v4 v3).bind (fun z7 => if z7 = 0 then (Bounds_gather_b67 N kh21 s0 s1 v2 v3 v4) else ((Bounds_narrow N s0 s1 v4).bind (fun z10 => Bounds_gather_b67 N kh21 z10 s1 v2 v3 v4)))) else (Bounds_gather_b67 N kh21 s0 s1 v2 v3 v4)))))
def Bounds_gather_h21 (N : Nat) (s1 : zSt) (v2 : Int32) (v3 : Int32) : Nat → zSt → Int32 → Option (zSt)
  | 0 => fun _ _ => none
  | n + 1 => fun s0 v4 => Bounds_gather_b21 N (Bounds_gather_h21 N s1 v2 v3 n) s0 s1 v2 v3 v4
theorem Bounds_gather_h21_s (N : Nat) (s1 : zSt) (v2 : Int32) (v3 : Int32) (n : Nat) (s0 : zSt) (v4 : Int32) : Bounds_gather_h21 N s1 v2 v3 (n + 1) s0 v4 = Bounds_gather_b21 N (Bounds_gather_h21 N s1 v2 v3 n) s0 s1 v2 v3 v4 := rfl
def Bounds_gather_b0 (N : Nat) (s0 : zSt) (s1 : zSt) (v2 : Int32) (v3 : Int32) : Option (zSt) :=
  (Arrays_fill N 4 (zA s0 1) 0).bind (fun z1 => Bounds_gather_h21 N s1 v2 v3 N (zsA (zpI (zpI s0 0 0) 2 0) 1 z1) 0)
def Bounds_gather (N : Nat) (s0 : zSt) (s1 : zSt) (v2 : Int32) (v3 : Int32) : Option (zSt) := Bounds_gather_b0 N s0 s1 v2 v3
def Bounds_canBe_b76 (N : Nat) (kh3 : Int32 → Option (Int32)) (s0 : zSt) (n1 : Nat) (f1 : Nat → Int32) (n2 : Nat) (f2 : Nat → Int32) (v1 : Int32) (v4 : Int32) : Option (Int32) :=
  kh3 (v4 + 1)
def Bounds_canBe_b3 (N : Nat) (kh3 : Int32 → Option (Int32)) (s0 : zSt) (n1 : Nat) (f1 : Nat → Int32) (n2 : Nat) (f2 : Nat → Int32) (v1 : Int32) (v4 : Int32) : Option (Int32) :=
  if (zI s0 2) ≤ v4 then (some (1)) else (zck v4 4 (zck v4 4 ((Bounds_has N s0 ((zA s0 3) (Int32.toNatClampNeg v4)) v1).bind (fun z4 => if z4 = 0 then (Bounds_canBe_b76 N kh3 s0 n1 f1 n2 f2 v1 v4) else (zck ((((zA s0 3) (Int32.toNatClampNeg v4)) * 12) + v1) n1 (zck ((((zA s0 3) (Int32.toNatClampNeg v4)) * 12) + v1) 48 (if ((zA s0 5) (Int32.toNatClampNeg ((((zA s0 3) (Int32.toNatClampNeg v4)) * 12) + v1))) < (f1 (Int32.toNatClampNeg ((((zA s0 3) (Int32.toNatClampNeg v4)) * 12) + v1))) then (some (0)) else (zck ((((zA s0 3) (Int32.toNatClampNeg v4)) * 12) + v1) n1 (zck ((((zA s0 3) (Int32.toNatClampNeg v4)) * 12) + v1) n2 (zck ((((zA s0 3) (Int32.toNatClampNeg v4)) * 12) + v1) 48 (if ((zA s0 4) (Int32.toNatClampNeg ((((zA s0 3) (Int32.toNatClampNeg v4)) * 12) + v1))) ≤ ((f1 (Int32.toNatClampNeg ((((zA s0 3) (Int32.toNatClampNeg v4)) * 12) + v1))) + (f2 (Int32.toNatClampNeg ((((zA s0 3) (Int32.toNatClampNeg v4)) * 12) + v1)))) then (Bounds_canBe_b76 N kh3 s0 n1 f1 n2 f2 v1 v4) else (some (0)))))))))))))
def Bounds_canBe_h3 (N : Nat) (s0 : zSt) (n1 : Nat) (f1 : (Nat → Int32)) (n2 : Nat) (f2 : (Nat → Int32)) (v1 : Int32) : Nat → Int32 → Option (Int32)
  | 0 => fun _ => none
  | n + 1 => fun v4 => Bounds_canBe_b3 N (Bounds_canBe_h3 N s0 n1 f1 n2 f2 v1 n) s0 n1 f1 n2 f2 v1 v4
theorem Bounds_canBe_h3_s (N : Nat) (s0 : zSt) (n1 : Nat) (f1 : (Nat → Int32)) (n2 : Nat) (f2 : (Nat → Int32)) (v1 : Int32) (n : Nat) (v4 : Int32) : Bounds_canBe_h3 N s0 n1 f1 n2 f2 v1 (n + 1) v4 = Bounds_canBe_b3 N (Bounds_canBe_h3 N s0 n1 f1 n2 f2 v1 n) s0 n1 f1 n2 f2 v1 v4 := rfl
def Bounds_canBe_b0 (N : Nat) (s0 : zSt) (n1 : Nat) (f1 : Nat → Int32) (n2 : Nat) (f2 : Nat → Int32) (v1 : Int32) : Option (Int32) :=
  Bounds_canBe_h3 N s0 n1 f1 n2 f2 v1 N 0
def Bounds_canBe (N : Nat) (s0 : zSt) (n1 : Nat) (f1 : Nat → Int32) (n2 : Nat) (f2 : Nat → Int32) (v1 : Int32) : Option (Int32) := Bounds_canBe_b0 N s0 n1 f1 n2 f2 v1
def CH_within_b0 (N : Nat) (v0 : Int32) (v1 : Int32) (v2 : Int32) : Option (Int32) :=
  if v0 < v1 then (some (0)) else (if v2 < v0 then (some (0)) else (some (1)))
def CH_within (N : Nat) (v0 : Int32) (v1 : Int32) (v2 : Int32) : Option (Int32) := CH_within_b0 N v0 v1 v2
def Bounds_allow_b0 (N : Nat) (s0 : zSt) (v1 : Int32) (v2 : Int32) (v3 : Int32) : Option (Int32) :=
  zck ((v1 * 12) + v2) 48 (zck ((v1 * 12) + v2) 48 ((CH_within N v3 ((zA s0 4) (Int32.toNatClampNeg ((v1 * 12) + v2))) ((zA s0 5) (Int32.toNatClampNeg ((v1 * 12) + v2)))).bind (fun z3 => zcb z3 (some (z3)))))
def Bounds_allow (N : Nat) (s0 : zSt) (v1 : Int32) (v2 : Int32) (v3 : Int32) : Option (Int32) := Bounds_allow_b0 N s0 v1 v2 v3
def Valley_isBeast_b0 (N : Nat) (s0 : zSt) (v1 : Int32) : Option (Int32) :=
  if (((zI s0 8) >>> (v1 &&& 31)) &&& 1) = 1 then (some (1)) else (some (0))
def Valley_isBeast (N : Nat) (s0 : zSt) (v1 : Int32) : Option (Int32) := Valley_isBeast_b0 N s0 v1
def Creeps_gather_b166 (N : Nat) (kh75 : zSt → Int32 → Option (zSt)) (s0 : zSt) (s1 : zSt) (s2 : zSt) (v3 : Int32) (v4 : Int32) : Option (zSt) :=
  kh75 s0 (v4 + 1)
def Creeps_gather_b75 (N : Nat) (kh75 : zSt → Int32 → Option (zSt)) (s0 : zSt) (s1 : zSt) (s2 : zSt) (v3 : Int32) (v4 : Int32) : Option (zSt) :=
  if (zI s2 0) ≤ v4 then (some (s0)) else ((Entries_isSound N s2 v4).bind (fun z2 => if z2 = 0 then ((Entries_counts N s2 v4 v3).bind (fun z5 => if z5 = 0 then (Creeps_gather_b166 N kh75 s0 s1 s2 v3 v4) else (zck (zI s0 2) 40 (zck v4 40 (zck (zI s0 2) 40 (zck v4 40 (zck (zI s0 2) 40 (zck (zI s0 2) 360 (Creeps_gather_b166 N kh75 (zpI (zsA (zsA (zsA (zsA s0 3 (upd (zA s0 3) (Int32.toNatClampNeg (zI s0 2)) v4)) 4 (upd (zA s0 4) (Int32.toNatClampNeg (zI s0 2)) ((zA s2 1) (Int32.toNatClampNeg v4)))) 5 (upd (zA s0 5) (Int32.toNatClampNeg (zI s0 2)) ((zA s2 3) (Int32.toNatClampNeg v4)))) 7 (upd (zA s0 7) (Int32.toNatClampNeg (zI s0 2)) 0)) 2 ((zI s0 2) + 1)) s1 s2 v3 v4))))))))) else (Creeps_gather_b166 N kh75 s0 s1 s2 v3 v4)))
def Creeps_gather_h75 (N : Nat) (s1 : zSt) (s2 : zSt) (v3 : Int32) : Nat → zSt → Int32 → Option (zSt)
  | 0 => fun _ _ => none
  | n + 1 => fun s0 v4 => Creeps_gather_b75 N (Creeps_gather_h75 N s1 s2 v3 n) s0 s1 s2 v3 v4
theorem Creeps_gather_h75_s (N : Nat) (s1 : zSt) (s2 : zSt) (v3 : Int32) (n : Nat) (s0 : zSt) (v4 : Int32) : Creeps_gather_h75 N s1 s2 v3 (n + 1) s0 v4 = Creeps_gather_b75 N (Creeps_gather_h75 N s1 s2 v3 n) s0 s1 s2 v3 v4 := rfl
def Creeps_gather_b67 (N : Nat) (s0 : zSt) (s1 : zSt) (s2 : zSt) (v3 : Int32) : Option (zSt) :=
  Creeps_gather_h75 N s1 s2 v3 N (zpI s0 2 0) 0
def Creeps_gather_b61 (N : Nat) (kh8 : zSt → Int32 → Option (zSt)) (s0 : zSt) (s1 : zSt) (s2 : zSt) (v3 : Int32) (v4 : Int32) : Option (zSt) :=
  kh8 s0 (v4 + 1)
def Creeps_gather_b8 (N : Nat) (kh8 : zSt → Int32 → Option (zSt)) (s0 : zSt) (s1 : zSt) (s2 : zSt) (v3 : Int32) (v4 : Int32) : Option (zSt) :=
  if (zI s1 3) ≤ v4 then (Creeps_gather_b67 N s0 s1 s2 v3) else (if 8 ≤ (zI s0 0) then (Creeps_gather_b67 N s0 s1 s2 v3) else ((Valley_isBeast N s1 v4).bind (fun z3 => if z3 = 0 then (Creeps_gather_b61 N kh8 s0 s1 s2 v3 v4) else (zck v4 11 (zck (zI s0 0) 8 (Creeps_gather_b61 N kh8 (zpI (zsA s0 1 (upd (zA s0 1) (Int32.toNatClampNeg (zI s0 0)) ((zA s1 5) (Int32.toNatClampNeg v4)))) 0 ((zI s0 0) + 1)) s1 s2 v3 v4))))))
def Creeps_gather_h8 (N : Nat) (s1 : zSt) (s2 : zSt) (v3 : Int32) : Nat → zSt → Int32 → Option (zSt)
  | 0 => fun _ _ => none
  | n + 1 => fun s0 v4 => Creeps_gather_b8 N (Creeps_gather_h8 N s1 s2 v3 n) s0 s1 s2 v3 v4
theorem Creeps_gather_h8_s (N : Nat) (s1 : zSt) (s2 : zSt) (v3 : Int32) (n : Nat) (s0 : zSt) (v4 : Int32) : Creeps_gather_h8 N s1 s2 v3 (n + 1) s0 v4 = Creeps_gather_b8 N (Creeps_gather_h8 N s1 s2 v3 n) s0 s1 s2 v3 v4 := rfl
def Creeps_gather_b0 (N : Nat) (s0 : zSt) (s1 : zSt) (s2 : zSt) (v3 : Int32) : Option (zSt) :=
  Creeps_gather_h8 N s1 s2 v3 N (zpI s0 0 0) 0
def Creeps_gather (N : Nat) (s0 : zSt) (s1 : zSt) (s2 : zSt) (v3 : Int32) : Option (zSt) := Creeps_gather_b0 N s0 s1 s2 v3
def Integer_bitCount_b48 (N : Nat) (v0 : Int32) : Option (Int32) :=
  some (v0 &&& 63)
def Integer_bitCount_b41 (N : Nat) (v0 : Int32) : Option (Int32) :=
  Integer_bitCount_b48 N (v0 + ((Int32.toUInt32 v0 >>> (Int32.toUInt32 16 &&& Int32.toUInt32 31)).toInt32))
def Integer_bitCount_b34 (N : Nat) (v0 : Int32) : Option (Int32) :=
  Integer_bitCount_b41 N (v0 + ((Int32.toUInt32 v0 >>> (Int32.toUInt32 8 &&& Int32.toUInt32 31)).toInt32))
def Integer_bitCount_b24 (N : Nat) (v0 : Int32) : Option (Int32) :=
  Integer_bitCount_b34 N ((v0 + ((Int32.toUInt32 v0 >>> (Int32.toUInt32 4 &&& Int32.toUInt32 31)).toInt32)) &&& 252645135)
def Integer_bitCount_b0 (N : Nat) (v0 : Int32) : Option (Int32) :=
  Integer_bitCount_b24 N (((v0 - (((Int32.toUInt32 v0 >>> (Int32.toUInt32 1 &&& Int32.toUInt32 31)).toInt32) &&& 1431655765)) &&& 858993459) + (((Int32.toUInt32 (v0 - (((Int32.toUInt32 v0 >>> (Int32.toUInt32 1 &&& Int32.toUInt32 31)).toInt32) &&& 1431655765)) >>> (Int32.toUInt32 2 &&& Int32.toUInt32 31)).toInt32) &&& 858993459))
def Integer_bitCount (N : Nat) (v0 : Int32) : Option (Int32) := Integer_bitCount_b0 N v0
def Creeps_countNotTooMany_b2 (N : Nat) (kh2 : Int32 → Option (Int32)) (s0 : zSt) (v1 : Int32) : Option (Int32) :=
  if (zI s0 2) ≤ v1 then (some (v1)) else (zck v1 40 ((Integer_bitCount N ((zA s0 5) (Int32.toNatClampNeg v1))).bind (fun z3 => if (zI s0 0) < z3 then (some (v1)) else (kh2 (v1 + 1)))))
def Creeps_countNotTooMany_h2 (N : Nat) (s0 : zSt) : Nat → Int32 → Option (Int32)
  | 0 => fun _ => none
  | n + 1 => fun v1 => Creeps_countNotTooMany_b2 N (Creeps_countNotTooMany_h2 N s0 n) s0 v1
theorem Creeps_countNotTooMany_h2_s (N : Nat) (s0 : zSt) (n : Nat) (v1 : Int32) : Creeps_countNotTooMany_h2 N s0 (n + 1) v1 = Creeps_countNotTooMany_b2 N (Creeps_countNotTooMany_h2 N s0 n) s0 v1 := rfl
def Creeps_countNotTooMany_b0 (N : Nat) (s0 : zSt) : Option (Int32) :=
  Creeps_countNotTooMany_h2 N s0 N 0
def Creeps_countNotTooMany (N : Nat) (s0 : zSt) : Option (Int32) := Creeps_countNotTooMany_b0 N s0
def Math_floorMod_b0 (N : Nat) (v0 : Int32) (v1 : Int32) : Option (Int32) :=
  zcz v1 (if 0 ≤ (v0 ^^^ v1) then (some (v0 - v0 / v1 * v1)) else (if (v0 - v0 / v1 * v1) = 0 then (some (v0 - v0 / v1 * v1)) else (some ((v0 - v0 / v1 * v1) + v1))))
def Math_floorMod (N : Nat) (v0 : Int32) (v1 : Int32) : Option (Int32) := Math_floorMod_b0 N v0 v1
def Creeps_ring_b26 (N : Nat) (kh26 : zSt → Int32 → Option (Int32 × zSt)) (s0 : zSt) (v1 : Int32) (v2 : Int32) (v3 : Int32) (v4 : Int32) (v5 : Int32) (v6 : Int32) (v7 : Int32) : Option (Int32 × zSt) :=
  if v3 ≤ v7 then (some (v3, s0)) else (zck v1 8 (zck v7 40 ((Math_floorMod N (((zA s0 1) (Int32.toNatClampNeg v1)) - (v2 * ((zA s0 4) (Int32.toNatClampNeg v7)))) 12).bind (fun z4 => zck (v4 + v7) 360 (zck v7 40 (if (((zA s0 5) (Int32.toNatClampNeg v7)) &&& ((1 : Int32) <<< (z4 &&& 31))) = 0 then (some (v7, s0)) else (zck v7 40 ((Integer_bitCount N (((zA s0 5) (Int32.toNatClampNeg v7)) &&& ((((zA s0 7) (Int32.toNatClampNeg (v4 + v7))) ||| ((1 : Int32) <<< (z4 &&& 31))) ^^^ (-1)))).bind (fun z10 => if z10 ≤ v6 then (zck (v5 + v7) 360 (kh26 (zsA s0 7 (upd (zA s0 7) (Int32.toNatClampNeg (v5 + v7)) (((zA s0 7) (Int32.toNatClampNeg (v4 + v7))) ||| ((1 : Int32) <<< (z4 &&& 31))))) (v7 + 1))) else (some (v7, s0)))))))))))
def Creeps_ring_h26 (N : Nat) (v1 : Int32) (v2 : Int32) (v3 : Int32) (v4 : Int32) (v5 : Int32) (v6 : Int32) : Nat → zSt → Int32 → Option (Int32 × zSt)
  | 0 => fun _ _ => none
  | n + 1 => fun s0 v7 => Creeps_ring_b26 N (Creeps_ring_h26 N v1 v2 v3 v4 v5 v6 n) s0 v1 v2 v3 v4 v5 v6 v7
theorem Creeps_ring_h26_s (N : Nat) (v1 : Int32) (v2 : Int32) (v3 : Int32) (v4 : Int32) (v5 : Int32) (v6 : Int32) (n : Nat) (s0 : zSt) (v7 : Int32) : Creeps_ring_h26 N v1 v2 v3 v4 v5 v6 (n + 1) s0 v7 = Creeps_ring_b26 N (Creeps_ring_h26 N v1 v2 v3 v4 v5 v6 n) s0 v1 v2 v3 v4 v5 v6 v7 := rfl
def Creeps_ring_b0 (N : Nat) (s0 : zSt) (v1 : Int32) (v2 : Int32) (v3 : Int32) : Option (Int32 × zSt) :=
  Creeps_ring_h26 N v1 v2 v3 (v1 * 40) ((v1 * 40) + 40) (((zI s0 0) - v1) - 1) N s0 0
def Creeps_ring (N : Nat) (s0 : zSt) (v1 : Int32) (v2 : Int32) (v3 : Int32) : Option (Int32 × zSt) := Creeps_ring_b0 N s0 v1 v2 v3
def Creeps_seekLeast_b84 (N : Nat) (kr : zSt → Nat → (Nat → Int32) → Int32 → Int32 → Option (zSt × (Nat → Int32))) (kh40 : zSt → (Nat → Int32) → Int32 → Option (zSt × (Nat → Int32))) (s0 : zSt) (n1 : Nat) (f1 : Nat → Int32) (v1 : Int32) (v2 : Int32) (v4 : Int32) : Option (zSt × (Nat → Int32)) :=
  kh40 s0 f1 (v4 + 1)
def Creeps_seekLeast_b40 (N : Nat) (kr : zSt → Nat → (Nat → Int32) → Int32 → Int32 → Option (zSt × (Nat → Int32))) (kh40 : zSt → (Nat → Int32) → Int32 → Option (zSt × (Nat → Int32))) (s0 : zSt) (n1 : Nat) (f1 : Nat → Int32) (v1 : Int32) (v2 : Int32) (v4 : Int32) : Option (zSt × (Nat → Int32)) :=
  if 2 < v4 then (some (s0, f1)) else (zck v1 8 ((Creeps_ring N (zsA s0 6 (upd (zA s0 6) (Int32.toNatClampNeg v1) v4)) v1 v4 (zI s0 2)).bind (fun z3 => if z3.1 = (zI z3.2 2) then ((kr (zmg [6] z3.2 (zsA s0 6 (upd (zA s0 6) (Int32.toNatClampNeg v1) v4))) n1 f1 (v1 + 1) (v2 + v4)).bind (fun z6 => Creeps_seekLeast_b84 N kr kh40 z6.1 n1 z6.2 v1 v2 v4)) else (Creeps_seekLeast_b84 N kr kh40 (zmg [6] z3.2 (zsA s0 6 (upd (zA s0 6) (Int32.toNatClampNeg v1) v4))) n1 f1 v1 v2 v4))))
def Creeps_seekLeast_h40 (N : Nat) (kr : zSt → Nat → (Nat → Int32) → Int32 → Int32 → Option (zSt × (Nat → Int32))) (n1 : Nat) (v1 : Int32) (v2 : Int32) : Nat → zSt → (Nat → Int32) → Int32 → Option (zSt × (Nat → Int32))
  | 0 => fun _ _ _ => none
  | n + 1 => fun s0 f1 v4 => Creeps_seekLeast_b40 N kr (Creeps_seekLeast_h40 N kr n1 v1 v2 n) s0 n1 f1 v1 v2 v4
theorem Creeps_seekLeast_h40_s (N : Nat) (kr : zSt → Nat → (Nat → Int32) → Int32 → Int32 → Option (zSt × (Nat → Int32))) (n1 : Nat) (v1 : Int32) (v2 : Int32) (n : Nat) (s0 : zSt) (f1 : (Nat → Int32)) (v4 : Int32) : Creeps_seekLeast_h40 N kr n1 v1 v2 (n + 1) s0 f1 v4 = Creeps_seekLeast_b40 N kr (Creeps_seekLeast_h40 N kr n1 v1 v2 n) s0 n1 f1 v1 v2 v4 := rfl
def Creeps_seekLeast_b0 (N : Nat) (kr : zSt → Nat → (Nat → Int32) → Int32 → Int32 → Option (zSt × (Nat → Int32))) (s0 : zSt) (n1 : Nat) (f1 : Nat → Int32) (v1 : Int32) (v2 : Int32) : Option (zSt × (Nat → Int32)) :=
  if v2 < (zI s0 8) then (if v1 < (zI s0 0) then (Creeps_seekLeast_h40 N kr n1 v1 v2 N s0 f1 0) else (zcp 0 0 (zI s0 0) 8 n1 (some ((zpI s0 8 v2), (va_cpy (zA s0 6) f1 (Int32.toNatClampNeg 0) (Int32.toNatClampNeg 0) (Int32.toNatClampNeg (zI s0 0))))))) else (some (s0, f1))
def Creeps_seekLeast (N : Nat) : Nat → zSt → Nat → (Nat → Int32) → Int32 → Int32 → Option (zSt × (Nat → Int32))
  | 0 => fun _ _ _ _ _ => none
  | d + 1 => fun s0 n1 f1 v1 v2 => Creeps_seekLeast_b0 N (Creeps_seekLeast N d) s0 n1 f1 v1 v2
theorem Creeps_seekLeast_s (N d : Nat) (s0 : zSt) (n1 : Nat) (f1 : Nat → Int32) (v1 : Int32) (v2 : Int32) : Creeps_seekLeast N (d + 1) s0 n1 f1 v1 v2 = Creeps_seekLeast_b0 N (Creeps_seekLeast N d) s0 n1 f1 v1 v2 := rfl
def Creeps_leastTogether_b24 (N : Nat) (s0 : zSt) (n1 : Nat) (f1 : Nat → Int32) : Option (Int32 × zSt × (Nat → Int32)) :=
  if (zI s0 8) ≤ 16 then (some (zI s0 8, s0, f1)) else (some ((-1), s0, f1))
def Creeps_leastTogether_b0 (N : Nat) (s0 : zSt) (n1 : Nat) (f1 : Nat → Int32) : Option (Int32 × zSt × (Nat → Int32)) :=
  (Creeps_countNotTooMany N (zpI s0 8 17)).bind (fun z1 => if z1 = (zI s0 2) then ((Creeps_seekLeast N 11 (zpI s0 8 17) n1 f1 0 0).bind (fun z4 => Creeps_leastTogether_b24 N z4.1 n1 z4.2)) else (Creeps_leastTogether_b24 N (zpI s0 8 17) n1 f1))
def Creeps_leastTogether (N : Nat) (s0 : zSt) (n1 : Nat) (f1 : Nat → Int32) : Option (Int32 × zSt × (Nat → Int32)) := Creeps_leastTogether_b0 N s0 n1 f1
def Creeps_seekFarthest_b25 (N : Nat) (kr : zSt → Int32 → Int32 → Option (zSt)) (kh25 : zSt → Int32 → Option (zSt)) (s0 : zSt) (v1 : Int32) (v2 : Int32) (v3 : Int32) : Option (zSt) :=
  if 2 < v3 then (some (s0)) else ((Creeps_ring N s0 v1 v3 v2).bind (fun z2 => (kr z2.2 (v1 + 1) z2.1).bind (fun z4 => kh25 z4 (v3 + 1))))
def Creeps_seekFarthest_h25 (N : Nat) (kr : zSt → Int32 → Int32 → Option (zSt)) (v1 : Int32) (v2 : Int32) : Nat → zSt → Int32 → Option (zSt)
  | 0 => fun _ _ => none
  | n + 1 => fun s0 v3 => Creeps_seekFarthest_b25 N kr (Creeps_seekFarthest_h25 N kr v1 v2 n) s0 v1 v2 v3
theorem Creeps_seekFarthest_h25_s (N : Nat) (kr : zSt → Int32 → Int32 → Option (zSt)) (v1 : Int32) (v2 : Int32) (n : Nat) (s0 : zSt) (v3 : Int32) : Creeps_seekFarthest_h25 N kr v1 v2 (n + 1) s0 v3 = Creeps_seekFarthest_b25 N kr (Creeps_seekFarthest_h25 N kr v1 v2 n) s0 v1 v2 v3 := rfl
def Creeps_seekFarthest_b0 (N : Nat) (kr : zSt → Int32 → Int32 → Option (zSt)) (s0 : zSt) (v1 : Int32) (v2 : Int32) : Option (zSt) :=
  if (zI s0 9) < v2 then (if v1 < (zI s0 0) then (Creeps_seekFarthest_h25 N kr v1 v2 N s0 0) else (some ((zpI s0 9 v2)))) else (some (s0))
def Creeps_seekFarthest (N : Nat) : Nat → zSt → Int32 → Int32 → Option (zSt)
  | 0 => fun _ _ _ => none
  | d + 1 => fun s0 v1 v2 => Creeps_seekFarthest_b0 N (Creeps_seekFarthest N d) s0 v1 v2
theorem Creeps_seekFarthest_s (N d : Nat) (s0 : zSt) (v1 : Int32) (v2 : Int32) : Creeps_seekFarthest N (d + 1) s0 v1 v2 = Creeps_seekFarthest_b0 N (Creeps_seekFarthest N d) s0 v1 v2 := rfl
def Creeps_firstThatCant_b0 (N : Nat) (s0 : zSt) : Option (Int32 × zSt) :=
  (Creeps_countNotTooMany N (zpI s0 9 (-1))).bind (fun z1 => (Creeps_seekFarthest N 11 (zpI s0 9 (-1)) 0 z1).bind (fun z3 => (CH_within N (zI z3 9) 0 ((zI z3 2) - 1)).bind (fun z5 => if z5 = 0 then (some ((-1), (zmg [3] z3 (zpI s0 9 (-1))))) else (zck (zI z3 9) 40 (some ((zA s0 3) (Int32.toNatClampNeg (zI z3 9)), (zmg [3] z3 (zpI s0 9 (-1)))))))))
def Creeps_firstThatCant (N : Nat) (s0 : zSt) : Option (Int32 × zSt) := Creeps_firstThatCant_b0 N s0
def Math_abs_b0 (N : Nat) (v0 : Int32) : Option (Int32) :=
  if 0 ≤ v0 then (some (v0)) else (some (-v0))
def Math_abs (N : Nat) (v0 : Int32) : Option (Int32) := Math_abs_b0 N v0
def Dealer_hasLoud_b31 (N : Nat) (kh3 : Int32 → Option (Int32)) (s0 : zSt) (n1 : Nat) (f1 : Nat → Int32) (v1 : Int32) (v2 : Int32) (v3 : Int32) (v5 : Int32) : Option (Int32) :=
  kh3 (v5 + 1)
def Dealer_hasLoud_b3 (N : Nat) (kh3 : Int32 → Option (Int32)) (s0 : zSt) (n1 : Nat) (f1 : Nat → Int32) (v1 : Int32) (v2 : Int32) (v3 : Int32) (v5 : Int32) : Option (Int32) :=
  if v2 ≤ v5 then (some (0)) else (zck v5 n1 (if (f1 (Int32.toNatClampNeg v5)) = v3 then (zck v5 8 (if ((zA s0 2) (Int32.toNatClampNeg v5)) = v1 then (some (1)) else (Dealer_hasLoud_b31 N kh3 s0 n1 f1 v1 v2 v3 v5))) else (Dealer_hasLoud_b31 N kh3 s0 n1 f1 v1 v2 v3 v5)))
def Dealer_hasLoud_h3 (N : Nat) (s0 : zSt) (n1 : Nat) (f1 : (Nat → Int32)) (v1 : Int32) (v2 : Int32) (v3 : Int32) : Nat → Int32 → Option (Int32)
  | 0 => fun _ => none
  | n + 1 => fun v5 => Dealer_hasLoud_b3 N (Dealer_hasLoud_h3 N s0 n1 f1 v1 v2 v3 n) s0 n1 f1 v1 v2 v3 v5
theorem Dealer_hasLoud_h3_s (N : Nat) (s0 : zSt) (n1 : Nat) (f1 : (Nat → Int32)) (v1 : Int32) (v2 : Int32) (v3 : Int32) (n : Nat) (v5 : Int32) : Dealer_hasLoud_h3 N s0 n1 f1 v1 v2 v3 (n + 1) v5 = Dealer_hasLoud_b3 N (Dealer_hasLoud_h3 N s0 n1 f1 v1 v2 v3 n) s0 n1 f1 v1 v2 v3 v5 := rfl
def Dealer_hasLoud_b0 (N : Nat) (s0 : zSt) (n1 : Nat) (f1 : Nat → Int32) (v1 : Int32) (v2 : Int32) (v3 : Int32) : Option (Int32) :=
  Dealer_hasLoud_h3 N s0 n1 f1 v1 v2 v3 N 0
def Dealer_hasLoud (N : Nat) (s0 : zSt) (n1 : Nat) (f1 : Nat → Int32) (v1 : Int32) (v2 : Int32) (v3 : Int32) : Option (Int32) := Dealer_hasLoud_b0 N s0 n1 f1 v1 v2 v3
def Dealer_twoAreKnown_b109 (N : Nat) (kh11 : Int32 → Option (Int32)) (kh20 : Int32 → Option (Int32)) (s0 : zSt) (n1 : Nat) (f1 : Nat → Int32) (v1 : Int32) (v2 : Int32) (v4 : Int32) (v5 : Int32) (v6 : Int32) : Option (Int32) :=
  kh20 (v6 + 1)
def Dealer_twoAreKnown_b20 (N : Nat) (kh11 : Int32 → Option (Int32)) (kh20 : Int32 → Option (Int32)) (s0 : zSt) (n1 : Nat) (f1 : Nat → Int32) (v1 : Int32) (v2 : Int32) (v4 : Int32) (v5 : Int32) (v6 : Int32) : Option (Int32) :=
  if v5 ≤ v6 then (kh11 (v5 + 1)) else (zck v5 n1 (if (f1 (Int32.toNatClampNeg v5)) = v2 then (zck v6 n1 (if (f1 (Int32.toNatClampNeg v6)) = v2 then (zck v5 8 (zck v6 8 (if (((zA s0 2) (Int32.toNatClampNeg v5)) + ((zA s0 2) (Int32.toNatClampNeg v6))) = v4 then (some (0)) else (zck v5 8 (zck v6 8 ((Math_abs N (((zA s0 2) (Int32.toNatClampNeg v5)) - ((zA s0 2) (Int32.toNatClampNeg v6)))).bind (fun z11 => if z11 = v4 then (some (0)) else ((Dealer_hasLoud N s0 n1 f1 ((((zA s0 2) (Int32.toNatClampNeg v5)) + ((zA s0 2) (Int32.toNatClampNeg v6))) - v4) v1 v2).bind (fun z14 => if z14 = 0 then (Dealer_twoAreKnown_b109 N kh11 kh20 s0 n1 f1 v1 v2 v4 v5 v6) else (some (0))))))))))) else (Dealer_twoAreKnown_b109 N kh11 kh20 s0 n1 f1 v1 v2 v4 v5 v6))) else (Dealer_twoAreKnown_b109 N kh11 kh20 s0 n1 f1 v1 v2 v4 v5 v6)))
def Dealer_twoAreKnown_h20 (N : Nat) (kh11 : Int32 → Option (Int32)) (s0 : zSt) (n1 : Nat) (f1 : (Nat → Int32)) (v1 : Int32) (v2 : Int32) (v4 : Int32) (v5 : Int32) : Nat → Int32 → Option (Int32)
  | 0 => fun _ => none
  | n + 1 => fun v6 => Dealer_twoAreKnown_b20 N kh11 (Dealer_twoAreKnown_h20 N kh11 s0 n1 f1 v1 v2 v4 v5 n) s0 n1 f1 v1 v2 v4 v5 v6
theorem Dealer_twoAreKnown_h20_s (N : Nat) (kh11 : Int32 → Option (Int32)) (s0 : zSt) (n1 : Nat) (f1 : (Nat → Int32)) (v1 : Int32) (v2 : Int32) (v4 : Int32) (v5 : Int32) (n : Nat) (v6 : Int32) : Dealer_twoAreKnown_h20 N kh11 s0 n1 f1 v1 v2 v4 v5 (n + 1) v6 = Dealer_twoAreKnown_b20 N kh11 (Dealer_twoAreKnown_h20 N kh11 s0 n1 f1 v1 v2 v4 v5 n) s0 n1 f1 v1 v2 v4 v5 v6 := rfl
def Dealer_twoAreKnown_b11 (N : Nat) (kh11 : Int32 → Option (Int32)) (s0 : zSt) (n1 : Nat) (f1 : Nat → Int32) (v1 : Int32) (v2 : Int32) (v4 : Int32) (v5 : Int32) : Option (Int32) :=
  if v1 ≤ v5 then (some (1)) else (Dealer_twoAreKnown_h20 N kh11 s0 n1 f1 v1 v2 v4 v5 N 0)
def Dealer_twoAreKnown_h11 (N : Nat) (s0 : zSt) (n1 : Nat) (f1 : (Nat → Int32)) (v1 : Int32) (v2 : Int32) (v4 : Int32) : Nat → Int32 → Option (Int32)
  | 0 => fun _ => none
  | n + 1 => fun v5 => Dealer_twoAreKnown_b11 N (Dealer_twoAreKnown_h11 N s0 n1 f1 v1 v2 v4 n) s0 n1 f1 v1 v2 v4 v5
theorem Dealer_twoAreKnown_h11_s (N : Nat) (s0 : zSt) (n1 : Nat) (f1 : (Nat → Int32)) (v1 : Int32) (v2 : Int32) (v4 : Int32) (n : Nat) (v5 : Int32) : Dealer_twoAreKnown_h11 N s0 n1 f1 v1 v2 v4 (n + 1) v5 = Dealer_twoAreKnown_b11 N (Dealer_twoAreKnown_h11 N s0 n1 f1 v1 v2 v4 n) s0 n1 f1 v1 v2 v4 v5 := rfl
def Dealer_twoAreKnown_b0 (N : Nat) (s0 : zSt) (n1 : Nat) (f1 : Nat → Int32) (v1 : Int32) (v2 : Int32) : Option (Int32) :=
  zck v1 8 (Dealer_twoAreKnown_h11 N s0 n1 f1 v1 v2 ((zA s0 2) (Int32.toNatClampNeg v1)) N 0)
def Dealer_twoAreKnown (N : Nat) (s0 : zSt) (n1 : Nat) (f1 : Nat → Int32) (v1 : Int32) (v2 : Int32) : Option (Int32) := Dealer_twoAreKnown_b0 N s0 n1 f1 v1 v2
def Dealer_isKnown_b59 (N : Nat) (s0 : zSt) (n1 : Nat) (f1 : Nat → Int32) : Option (Int32) :=
  some (1)
def Dealer_isKnown_b35 (N : Nat) (kh3 : Int32 → Option (Int32)) (s0 : zSt) (n1 : Nat) (f1 : Nat → Int32) (v1 : Int32) (v2 : Int32) (v4 : Int32) : Option (Int32) :=
  kh3 (v4 + 1)
def Dealer_isKnown_b3 (N : Nat) (kh3 : Int32 → Option (Int32)) (s0 : zSt) (n1 : Nat) (f1 : Nat → Int32) (v1 : Int32) (v2 : Int32) (v4 : Int32) : Option (Int32) :=
  if v1 ≤ v4 then (if (zI s0 1) = 1 then (Dealer_isKnown_b59 N s0 n1 f1) else ((Dealer_twoAreKnown N s0 n1 f1 v1 v2).bind (fun z3 => if z3 = 0 then (some (0)) else (Dealer_isKnown_b59 N s0 n1 f1)))) else (zck v4 n1 (if (f1 (Int32.toNatClampNeg v4)) = v2 then (zck v4 8 (zck v1 8 (if ((zA s0 2) (Int32.toNatClampNeg v4)) = ((zA s0 2) (Int32.toNatClampNeg v1)) then (some (0)) else (Dealer_isKnown_b35 N kh3 s0 n1 f1 v1 v2 v4)))) else (Dealer_isKnown_b35 N kh3 s0 n1 f1 v1 v2 v4)))
def Dealer_isKnown_h3 (N : Nat) (s0 : zSt) (n1 : Nat) (f1 : (Nat → Int32)) (v1 : Int32) (v2 : Int32) : Nat → Int32 → Option (Int32)
  | 0 => fun _ => none
  | n + 1 => fun v4 => Dealer_isKnown_b3 N (Dealer_isKnown_h3 N s0 n1 f1 v1 v2 n) s0 n1 f1 v1 v2 v4
theorem Dealer_isKnown_h3_s (N : Nat) (s0 : zSt) (n1 : Nat) (f1 : (Nat → Int32)) (v1 : Int32) (v2 : Int32) (n : Nat) (v4 : Int32) : Dealer_isKnown_h3 N s0 n1 f1 v1 v2 (n + 1) v4 = Dealer_isKnown_b3 N (Dealer_isKnown_h3 N s0 n1 f1 v1 v2 n) s0 n1 f1 v1 v2 v4 := rfl
def Dealer_isKnown_b0 (N : Nat) (s0 : zSt) (n1 : Nat) (f1 : Nat → Int32) (v1 : Int32) (v2 : Int32) : Option (Int32) :=
  Dealer_isKnown_h3 N s0 n1 f1 v1 v2 N 0
def Dealer_isKnown (N : Nat) (s0 : zSt) (n1 : Nat) (f1 : Nat → Int32) (v1 : Int32) (v2 : Int32) : Option (Int32) := Dealer_isKnown_b0 N s0 n1 f1 v1 v2
def Dealer_dealFrom_b66 (N : Nat) (kr : zSt → Nat → (Nat → Int32) → Int32 → Int32 → Int32 → Option (Int32 × (Nat → Int32))) (kh13 : (Nat → Int32) → Int32 → Option (Int32 × (Nat → Int32))) (s0 : zSt) (n1 : Nat) (f1 : Nat → Int32) (v1 : Int32) (v2 : Int32) (v3 : Int32) (v5 : Int32) : Option (Int32 × (Nat → Int32)) :=
  kh13 f1 (v5 + 1)
def Dealer_dealFrom_b13 (N : Nat) (kr : zSt → Nat → (Nat → Int32) → Int32 → Int32 → Int32 → Option (Int32 × (Nat → Int32))) (kh13 : (Nat → Int32) → Int32 → Option (Int32 × (Nat → Int32))) (s0 : zSt) (n1 : Nat) (f1 : Nat → Int32) (v1 : Int32) (v2 : Int32) (v3 : Int32) (v5 : Int32) : Option (Int32 × (Nat → Int32)) :=
  if v2 < v5 then (some (0, f1)) else (if v3 ≤ v5 then (some (0, f1)) else ((Dealer_isKnown N s0 n1 f1 v1 v5).bind (fun z3 => if z3 = 0 then (Dealer_dealFrom_b66 N kr kh13 s0 n1 f1 v1 v2 v3 v5) else (zck v1 n1 ((Math_max N v2 (v5 + 1)).bind (fun z7 => (kr s0 n1 (upd f1 (Int32.toNatClampNeg v1) v5) (v1 + 1) z7 v3).bind (fun z9 => if z9.1 = 0 then (Dealer_dealFrom_b66 N kr kh13 s0 n1 z9.2 v1 v2 v3 v5) else (some (1, z9.2)))))))))
def Dealer_dealFrom_h13 (N : Nat) (kr : zSt → Nat → (Nat → Int32) → Int32 → Int32 → Int32 → Option (Int32 × (Nat → Int32))) (s0 : zSt) (n1 : Nat) (v1 : Int32) (v2 : Int32) (v3 : Int32) : Nat → (Nat → Int32) → Int32 → Option (Int32 × (Nat → Int32))
  | 0 => fun _ _ => none
  | n + 1 => fun f1 v5 => Dealer_dealFrom_b13 N kr (Dealer_dealFrom_h13 N kr s0 n1 v1 v2 v3 n) s0 n1 f1 v1 v2 v3 v5
theorem Dealer_dealFrom_h13_s (N : Nat) (kr : zSt → Nat → (Nat → Int32) → Int32 → Int32 → Int32 → Option (Int32 × (Nat → Int32))) (s0 : zSt) (n1 : Nat) (v1 : Int32) (v2 : Int32) (v3 : Int32) (n : Nat) (f1 : (Nat → Int32)) (v5 : Int32) : Dealer_dealFrom_h13 N kr s0 n1 v1 v2 v3 (n + 1) f1 v5 = Dealer_dealFrom_b13 N kr (Dealer_dealFrom_h13 N kr s0 n1 v1 v2 v3 n) s0 n1 f1 v1 v2 v3 v5 := rfl
def Dealer_dealFrom_b0 (N : Nat) (kr : zSt → Nat → (Nat → Int32) → Int32 → Int32 → Int32 → Option (Int32 × (Nat → Int32))) (s0 : zSt) (n1 : Nat) (f1 : Nat → Int32) (v1 : Int32) (v2 : Int32) (v3 : Int32) : Option (Int32 × (Nat → Int32)) :=
  if v1 < (zI s0 0) then (Dealer_dealFrom_h13 N kr s0 n1 v1 v2 v3 N f1 0) else (some (1, f1))
def Dealer_dealFrom (N : Nat) : Nat → zSt → Nat → (Nat → Int32) → Int32 → Int32 → Int32 → Option (Int32 × (Nat → Int32))
  | 0 => fun _ _ _ _ _ _ => none
  | d + 1 => fun s0 n1 f1 v1 v2 v3 => Dealer_dealFrom_b0 N (Dealer_dealFrom N d) s0 n1 f1 v1 v2 v3
theorem Dealer_dealFrom_s (N d : Nat) (s0 : zSt) (n1 : Nat) (f1 : Nat → Int32) (v1 : Int32) (v2 : Int32) (v3 : Int32) : Dealer_dealFrom N (d + 1) s0 n1 f1 v1 v2 v3 = Dealer_dealFrom_b0 N (Dealer_dealFrom N d) s0 n1 f1 v1 v2 v3 := rfl
def Dealer_deal_b75 (N : Nat) (kh75 : zSt → (Nat → Int32) → Int32 → Option (Int32 × zSt × (Nat → Int32))) (s0 : zSt) (s1 : zSt) (n2 : Nat) (f2 : Nat → Int32) (v4 : Int32) : Option (Int32 × zSt × (Nat → Int32)) :=
  if (zI s0 0) ≤ v4 then ((Dealer_dealFrom N 11 s0 n2 f2 0 0 (zI s0 0)).bind (fun z2 => some (zI s0 0, s0, z2.2))) else ((Dealer_dealFrom N 11 s0 n2 f2 0 0 v4).bind (fun z4 => if z4.1 = 0 then (kh75 s0 z4.2 (v4 + 1)) else (some (v4, s0, z4.2))))
def Dealer_deal_h75 (N : Nat) (s1 : zSt) (n2 : Nat) : Nat → zSt → (Nat → Int32) → Int32 → Option (Int32 × zSt × (Nat → Int32))
  | 0 => fun _ _ _ => none
  | n + 1 => fun s0 f2 v4 => Dealer_deal_b75 N (Dealer_deal_h75 N s1 n2 n) s0 s1 n2 f2 v4
theorem Dealer_deal_h75_s (N : Nat) (s1 : zSt) (n2 : Nat) (n : Nat) (s0 : zSt) (f2 : (Nat → Int32)) (v4 : Int32) : Dealer_deal_h75 N s1 n2 (n + 1) s0 f2 v4 = Dealer_deal_b75 N (Dealer_deal_h75 N s1 n2 n) s0 s1 n2 f2 v4 := rfl
def Dealer_deal_b72 (N : Nat) (s0 : zSt) (s1 : zSt) (n2 : Nat) (f2 : Nat → Int32) : Option (Int32 × zSt × (Nat → Int32)) :=
  Dealer_deal_h75 N s1 n2 N s0 f2 0
def Dealer_deal_b66 (N : Nat) (kh13 : zSt → (Nat → Int32) → Int32 → Option (Int32 × zSt × (Nat → Int32))) (s0 : zSt) (s1 : zSt) (n2 : Nat) (f2 : Nat → Int32) (v4 : Int32) : Option (Int32 × zSt × (Nat → Int32)) :=
  kh13 s0 f2 (v4 + 1)
def Dealer_deal_b13 (N : Nat) (kh13 : zSt → (Nat → Int32) → Int32 → Option (Int32 × zSt × (Nat → Int32))) (s0 : zSt) (s1 : zSt) (n2 : Nat) (f2 : Nat → Int32) (v4 : Int32) : Option (Int32 × zSt × (Nat → Int32)) :=
  if (zI s1 3) ≤ v4 then (Dealer_deal_b72 N s0 s1 n2 f2) else (if 8 ≤ (zI s0 0) then (Dealer_deal_b72 N s0 s1 n2 f2) else ((Valley_isBeast N s1 v4).bind (fun z3 => if z3 = 0 then (Dealer_deal_b66 N kh13 s0 s1 n2 f2 v4) else (zck v4 11 (zck (zI s0 0) 8 (Dealer_deal_b66 N kh13 (zpI (zsA s0 2 (upd (zA s0 2) (Int32.toNatClampNeg (zI s0 0)) ((zA s1 6) (Int32.toNatClampNeg v4)))) 0 ((zI s0 0) + 1)) s1 n2 f2 v4))))))
def Dealer_deal_h13 (N : Nat) (s1 : zSt) (n2 : Nat) : Nat → zSt → (Nat → Int32) → Int32 → Option (Int32 × zSt × (Nat → Int32))
  | 0 => fun _ _ _ => none
  | n + 1 => fun s0 f2 v4 => Dealer_deal_b13 N (Dealer_deal_h13 N s1 n2 n) s0 s1 n2 f2 v4
theorem Dealer_deal_h13_s (N : Nat) (s1 : zSt) (n2 : Nat) (n : Nat) (s0 : zSt) (f2 : (Nat → Int32)) (v4 : Int32) : Dealer_deal_h13 N s1 n2 (n + 1) s0 f2 v4 = Dealer_deal_b13 N (Dealer_deal_h13 N s1 n2 n) s0 s1 n2 f2 v4 := rfl
def Dealer_deal_b0 (N : Nat) (s0 : zSt) (s1 : zSt) (n2 : Nat) (f2 : Nat → Int32) (v2 : Int32) : Option (Int32 × zSt × (Nat → Int32)) :=
  Dealer_deal_h13 N s1 n2 N (zpI (zpI s0 1 v2) 0 0) f2 0
def Dealer_deal (N : Nat) (s0 : zSt) (s1 : zSt) (n2 : Nat) (f2 : Nat → Int32) (v2 : Int32) : Option (Int32 × zSt × (Nat → Int32)) := Dealer_deal_b0 N s0 s1 n2 f2 v2
def Earnest_begin_b0 (N : Nat) (s0 : zSt) (s1 : zSt) : Option (zSt) :=
  (Arrays_fill N 11 (zA s0 5) 0).bind (fun z1 => some ((zsA (zpI (zpI (zpI (zpI (zpI s0 0 (zI s1 8)) 1 0) 2 0) 3 0) 4 0) 5 z1)))
def Earnest_begin (N : Nat) (s0 : zSt) (s1 : zSt) : Option (zSt) := Earnest_begin_b0 N s0 s1
def Earnest_copy_b0 (N : Nat) (s0 : zSt) (s1 : zSt) : Option (zSt) :=
  zcp 0 0 11 11 11 (some ((zsA (zpI (zpI (zpI (zpI (zpI s0 0 (zI s1 0)) 1 (zI s1 1)) 2 (zI s1 2)) 3 (zI s1 3)) 4 (zI s1 4)) 5 (va_cpy (zA s1 5) (zA s0 5) (Int32.toNatClampNeg 0) (Int32.toNatClampNeg 0) (Int32.toNatClampNeg 11)))))
def Earnest_copy (N : Nat) (s0 : zSt) (s1 : zSt) : Option (zSt) := Earnest_copy_b0 N s0 s1
def Earnest_isThere_b0 (N : Nat) (s0 : zSt) (v1 : Int32) : Option (Int32) :=
  if (((zI s0 0) >>> (v1 &&& 31)) &&& 1) = 1 then (some (1)) else (some (0))
def Earnest_isThere (N : Nat) (s0 : zSt) (v1 : Int32) : Option (Int32) := Earnest_isThere_b0 N s0 v1
def Earnest_isStanding_b0 (N : Nat) (s0 : zSt) (v1 : Int32) : Option (Int32) :=
  if (((zI s0 1) >>> (v1 &&& 31)) &&& 1) = 1 then (some (1)) else (some (0))
def Earnest_isStanding (N : Nat) (s0 : zSt) (v1 : Int32) : Option (Int32) := Earnest_isStanding_b0 N s0 v1
def Earnest_toneOf_b0 (N : Nat) (s0 : zSt) (s1 : zSt) (v2 : Int32) : Option (Int32) :=
  zck v2 11 (zck v2 11 ((Math_floorMod N (((zA s1 5) (Int32.toNatClampNeg v2)) - (((zA s0 5) (Int32.toNatClampNeg v2)) * (zI s0 4))) 12).bind (fun z3 => some (z3))))
def Earnest_toneOf (N : Nat) (s0 : zSt) (s1 : zSt) (v2 : Int32) : Option (Int32) := Earnest_toneOf_b0 N s0 s1 v2
def Valley_loudAt_b0 (N : Nat) (s0 : zSt) (v1 : Int32) (v2 : Int32) (v3 : Int32) (v4 : Int32) : Option (Int32) :=
  zck v2 4 ((Math_abs N (v3 - ((zA s0 14) (Int32.toNatClampNeg v2)))).bind (fun z2 => zck v1 11 ((Math_max N 0 ((((zA s0 6) (Int32.toNatClampNeg v1)) - z2) - v4)).bind (fun z5 => some (z5)))))
def Valley_loudAt (N : Nat) (s0 : zSt) (v1 : Int32) (v2 : Int32) (v3 : Int32) (v4 : Int32) : Option (Int32) := Valley_loudAt_b0 N s0 v1 v2 v3 v4
def Earnest_loudness_b64 (N : Nat) (kh6 : Int32 → Int32 → Option (Int32)) (s0 : zSt) (s1 : zSt) (v2 : Int32) (v3 : Int32) (v4 : Int32) (v5 : Int32) : Option (Int32) :=
  kh6 v4 (v5 + 1)
def Earnest_loudness_b6 (N : Nat) (kh6 : Int32 → Int32 → Option (Int32)) (s0 : zSt) (s1 : zSt) (v2 : Int32) (v3 : Int32) (v4 : Int32) (v5 : Int32) : Option (Int32) :=
  if (zI s1 3) ≤ v5 then (some (v4)) else ((Earnest_isThere N s0 v5).bind (fun z2 => if z2 = 0 then (Earnest_loudness_b64 N kh6 s0 s1 v2 v3 v4 v5) else ((Earnest_isStanding N s0 v5).bind (fun z5 => if z5 = 0 then ((Earnest_toneOf N s0 s1 v5).bind (fun z8 => if z8 = v3 then ((Valley_loudAt N s1 v5 v2 (zI s0 2) (zI s0 3)).bind (fun z11 => Earnest_loudness_b64 N kh6 s0 s1 v2 v3 (v4 + z11) v5)) else (Earnest_loudness_b64 N kh6 s0 s1 v2 v3 v4 v5))) else (Earnest_loudness_b64 N kh6 s0 s1 v2 v3 v4 v5)))))
def Earnest_loudness_h6 (N : Nat) (s0 : zSt) (s1 : zSt) (v2 : Int32) (v3 : Int32) : Nat → Int32 → Int32 → Option (Int32)
  | 0 => fun _ _ => none
  | n + 1 => fun v4 v5 => Earnest_loudness_b6 N (Earnest_loudness_h6 N s0 s1 v2 v3 n) s0 s1 v2 v3 v4 v5
theorem Earnest_loudness_h6_s (N : Nat) (s0 : zSt) (s1 : zSt) (v2 : Int32) (v3 : Int32) (n : Nat) (v4 : Int32) (v5 : Int32) : Earnest_loudness_h6 N s0 s1 v2 v3 (n + 1) v4 v5 = Earnest_loudness_b6 N (Earnest_loudness_h6 N s0 s1 v2 v3 n) s0 s1 v2 v3 v4 v5 := rfl
def Earnest_loudness_b0 (N : Nat) (s0 : zSt) (s1 : zSt) (v2 : Int32) (v3 : Int32) : Option (Int32) :=
  Earnest_loudness_h6 N s0 s1 v2 v3 N 0 0
def Earnest_loudness (N : Nat) (s0 : zSt) (s1 : zSt) (v2 : Int32) (v3 : Int32) : Option (Int32) := Earnest_loudness_b0 N s0 s1 v2 v3
def Entries_add_b94 (N : Nat) (s0 : zSt) : Option (Int32 × zSt) :=
  some ((zI s0 0) - 1, s0)
def Entries_add_b84 (N : Nat) (s0 : zSt) : Option (Int32 × zSt) :=
  Entries_add_b94 N (zpI s0 0 ((zI s0 0) + 1))
def Entries_add_b0 (N : Nat) (s0 : zSt) (v1 : Int32) (v2 : Int32) (v3 : Int32) (v4 : Int32) (v5 : Int32) (v6 : Int32) : Option (Int32 × zSt) :=
  if (zI s0 0) < 40 then (zck (zI s0 0) 40 (zck (zI s0 0) 40 (zck (zI s0 0) 40 (zck (zI s0 0) 40 (zck (zI s0 0) 40 (zck (zI s0 0) 40 (zck (zI s0 0) 40 (Entries_add_b84 N (zsA (zsA (zsA (zsA (zsA (zsA (zsA s0 1 (upd (zA s0 1) (Int32.toNatClampNeg (zI s0 0)) v1)) 2 (upd (zA s0 2) (Int32.toNatClampNeg (zI s0 0)) v2)) 3 (upd (zA s0 3) (Int32.toNatClampNeg (zI s0 0)) v3)) 4 (upd (zA s0 4) (Int32.toNatClampNeg (zI s0 0)) v4)) 5 (upd (zA s0 5) (Int32.toNatClampNeg (zI s0 0)) v5)) 6 (upd (zA s0 6) (Int32.toNatClampNeg (zI s0 0)) v6)) 7 (upd (zA s0 7) (Int32.toNatClampNeg (zI s0 0)) (-1))))))))))) else (some ((-1), s0))
def Entries_add (N : Nat) (s0 : zSt) (v1 : Int32) (v2 : Int32) (v3 : Int32) (v4 : Int32) (v5 : Int32) (v6 : Int32) : Option (Int32 × zSt) := Entries_add_b0 N s0 v1 v2 v3 v4 v5 v6
def Valley_loudness_b52 (N : Nat) (kh6 : Int32 → Int32 → Option (Int32)) (s0 : zSt) (v1 : Int32) (v2 : Int32) (v3 : Int32) (v4 : Int32) (v5 : Int32) (v6 : Int32) (v7 : Int32) : Option (Int32) :=
  kh6 v6 (v7 + 1)
def Valley_loudness_b6 (N : Nat) (kh6 : Int32 → Int32 → Option (Int32)) (s0 : zSt) (v1 : Int32) (v2 : Int32) (v3 : Int32) (v4 : Int32) (v5 : Int32) (v6 : Int32) (v7 : Int32) : Option (Int32) :=
  if (zI s0 3) ≤ v7 then (some (v6)) else (if ((v1 >>> (v7 &&& 31)) &&& 1) = 1 then (zck v7 11 (if ((zA s0 5) (Int32.toNatClampNeg v7)) = v2 then ((Valley_loudAt N s0 v7 v3 v4 v5).bind (fun z5 => Valley_loudness_b52 N kh6 s0 v1 v2 v3 v4 v5 (v6 + z5) v7)) else (Valley_loudness_b52 N kh6 s0 v1 v2 v3 v4 v5 v6 v7))) else (Valley_loudness_b52 N kh6 s0 v1 v2 v3 v4 v5 v6 v7))
def Valley_loudness_h6 (N : Nat) (s0 : zSt) (v1 : Int32) (v2 : Int32) (v3 : Int32) (v4 : Int32) (v5 : Int32) : Nat → Int32 → Int32 → Option (Int32)
  | 0 => fun _ _ => none
  | n + 1 => fun v6 v7 => Valley_loudness_b6 N (Valley_loudness_h6 N s0 v1 v2 v3 v4 v5 n) s0 v1 v2 v3 v4 v5 v6 v7
theorem Valley_loudness_h6_s (N : Nat) (s0 : zSt) (v1 : Int32) (v2 : Int32) (v3 : Int32) (v4 : Int32) (v5 : Int32) (n : Nat) (v6 : Int32) (v7 : Int32) : Valley_loudness_h6 N s0 v1 v2 v3 v4 v5 (n + 1) v6 v7 = Valley_loudness_b6 N (Valley_loudness_h6 N s0 v1 v2 v3 v4 v5 n) s0 v1 v2 v3 v4 v5 v6 v7 := rfl
def Valley_loudness_b0 (N : Nat) (s0 : zSt) (v1 : Int32) (v2 : Int32) (v3 : Int32) (v4 : Int32) (v5 : Int32) : Option (Int32) :=
  Valley_loudness_h6 N s0 v1 v2 v3 v4 v5 N 0 0
def Valley_loudness (N : Nat) (s0 : zSt) (v1 : Int32) (v2 : Int32) (v3 : Int32) (v4 : Int32) (v5 : Int32) : Option (Int32) := Valley_loudness_b0 N s0 v1 v2 v3 v4 v5
def Parting_isSo_b111 (N : Nat) (kh13 : Int32 → Option (Int32)) (s0 : zSt) (s1 : zSt) (s2 : zSt) (v1 : Int32) (v4 : Int32) (v5 : Int32) (v6 : Int32) : Option (Int32) :=
  kh13 (v6 + 1)
def Parting_isSo_b65 (N : Nat) (kh13 : Int32 → Option (Int32)) (s0 : zSt) (s1 : zSt) (s2 : zSt) (v1 : Int32) (v4 : Int32) (v5 : Int32) (v6 : Int32) : Option (Int32) :=
  (Bounds_has N s2 (zI s0 3) v6).bind (fun z1 => if z1 = 0 then (Parting_isSo_b111 N kh13 s0 s1 s2 v1 v4 v5 v6) else ((Valley_loudness N s1 v5 v6 (zI s0 3) (zI s0 4) v4).bind (fun z4 => (Bounds_allow N s2 (zI s0 3) v6 z4).bind (fun z6 => if z6 = 0 then (some (0)) else (Parting_isSo_b111 N kh13 s0 s1 s2 v1 v4 v5 v6)))))
def Parting_isSo_b13 (N : Nat) (kh13 : Int32 → Option (Int32)) (s0 : zSt) (s1 : zSt) (s2 : zSt) (v1 : Int32) (v4 : Int32) (v5 : Int32) (v6 : Int32) : Option (Int32) :=
  if 12 ≤ v6 then (some (1)) else ((Bounds_has N s2 (zI s0 1) v6).bind (fun z2 => if z2 = 0 then (Parting_isSo_b65 N kh13 s0 s1 s2 v1 v4 v5 v6) else ((Valley_loudness N s1 v1 v6 (zI s0 1) (zI s0 2) v4).bind (fun z5 => (Bounds_allow N s2 (zI s0 1) v6 z5).bind (fun z7 => if z7 = 0 then (some (0)) else (Parting_isSo_b65 N kh13 s0 s1 s2 v1 v4 v5 v6))))))
def Parting_isSo_h13 (N : Nat) (s0 : zSt) (s1 : zSt) (s2 : zSt) (v1 : Int32) (v4 : Int32) (v5 : Int32) : Nat → Int32 → Option (Int32)
  | 0 => fun _ => none
  | n + 1 => fun v6 => Parting_isSo_b13 N (Parting_isSo_h13 N s0 s1 s2 v1 v4 v5 n) s0 s1 s2 v1 v4 v5 v6
theorem Parting_isSo_h13_s (N : Nat) (s0 : zSt) (s1 : zSt) (s2 : zSt) (v1 : Int32) (v4 : Int32) (v5 : Int32) (n : Nat) (v6 : Int32) : Parting_isSo_h13 N s0 s1 s2 v1 v4 v5 (n + 1) v6 = Parting_isSo_b13 N (Parting_isSo_h13 N s0 s1 s2 v1 v4 v5 n) s0 s1 s2 v1 v4 v5 v6 := rfl
def Parting_isSo_b0 (N : Nat) (s0 : zSt) (s1 : zSt) (s2 : zSt) (v1 : Int32) (v4 : Int32) : Option (Int32) :=
  Parting_isSo_h13 N s0 s1 s2 v1 v4 ((zI s1 8) &&& (v1 ^^^ (-1))) N 0
def Parting_isSo (N : Nat) (s0 : zSt) (s1 : zSt) (s2 : zSt) (v1 : Int32) (v4 : Int32) : Option (Int32) := Parting_isSo_b0 N s0 s1 s2 v1 v4
def Parting_countStrayed_b5 (N : Nat) (kh5 : Int32 → Int32 → Option (Int32)) (s0 : zSt) (s1 : zSt) (v1 : Int32) (v3 : Int32) (v4 : Int32) : Option (Int32) :=
  if (zI s1 0) ≤ v4 then (some (v3)) else (zck v4 3 ((Integer_bitCount N (((zA s1 2) (Int32.toNatClampNeg v4)) &&& v1)).bind (fun z3 => zck v4 3 ((Integer_bitCount N (((zA s1 2) (Int32.toNatClampNeg v4)) &&& (v1 ^^^ (-1)))).bind (fun z6 => (Math_min N z3 z6).bind (fun z8 => kh5 (v3 + z8) (v4 + 1)))))))
def Parting_countStrayed_h5 (N : Nat) (s0 : zSt) (s1 : zSt) (v1 : Int32) : Nat → Int32 → Int32 → Option (Int32)
  | 0 => fun _ _ => none
  | n + 1 => fun v3 v4 => Parting_countStrayed_b5 N (Parting_countStrayed_h5 N s0 s1 v1 n) s0 s1 v1 v3 v4
theorem Parting_countStrayed_h5_s (N : Nat) (s0 : zSt) (s1 : zSt) (v1 : Int32) (n : Nat) (v3 : Int32) (v4 : Int32) : Parting_countStrayed_h5 N s0 s1 v1 (n + 1) v3 v4 = Parting_countStrayed_b5 N (Parting_countStrayed_h5 N s0 s1 v1 n) s0 s1 v1 v3 v4 := rfl
def Parting_countStrayed_b0 (N : Nat) (s0 : zSt) (s1 : zSt) (v1 : Int32) : Option (Int32) :=
  Parting_countStrayed_h5 N s0 s1 v1 N 0 0
def Parting_countStrayed (N : Nat) (s0 : zSt) (s1 : zSt) (v1 : Int32) : Option (Int32) := Parting_countStrayed_b0 N s0 s1 v1
def Parting_gather_b55 (N : Nat) (s0 : zSt) (s1 : zSt) (v1 : Int32) (v3 : Int32) : Option (zSt) :=
  some ((zpI (zpI s0 9 v3) 10 v1))
def Parting_gather_b0 (N : Nat) (s0 : zSt) (s1 : zSt) (v1 : Int32) : Option (zSt) :=
  (Parting_countStrayed N (zpI (zpI (zpI s0 6 ((zI s0 6) + 1)) 7 ((zI s0 7) &&& v1)) 8 ((zI s0 8) &&& (v1 ^^^ (-1)))) s1 v1).bind (fun z1 => if (zI s0 9) = (-1) then (Parting_gather_b55 N (zpI (zpI (zpI s0 6 ((zI s0 6) + 1)) 7 ((zI s0 7) &&& v1)) 8 ((zI s0 8) &&& (v1 ^^^ (-1)))) s1 v1 z1) else (if (zI s0 9) ≤ z1 then (some ((zpI (zpI (zpI s0 6 ((zI s0 6) + 1)) 7 ((zI s0 7) &&& v1)) 8 ((zI s0 8) &&& (v1 ^^^ (-1)))))) else (Parting_gather_b55 N (zpI (zpI (zpI s0 6 ((zI s0 6) + 1)) 7 ((zI s0 7) &&& v1)) 8 ((zI s0 8) &&& (v1 ^^^ (-1)))) s1 v1 z1)))
def Parting_gather (N : Nat) (s0 : zSt) (s1 : zSt) (v1 : Int32) : Option (zSt) := Parting_gather_b0 N s0 s1 v1
def Parting_seek_b74 (N : Nat) (kh34 : zSt → Int32 → Option (zSt)) (s0 : zSt) (s1 : zSt) (s2 : zSt) (v3 : Int32) (v4 : Int32) : Option (zSt) :=
  kh34 s0 (v4 + 1)
def Parting_seek_b34 (N : Nat) (kh34 : zSt → Int32 → Option (zSt)) (s0 : zSt) (s1 : zSt) (s2 : zSt) (v3 : Int32) (v4 : Int32) : Option (zSt) :=
  if (zI s1 8) < v4 then (if (zI s0 6) = 0 then (some ((zpI (zpI s0 7 0) 8 0))) else (some (s0))) else (if (v4 &&& ((zI s1 8) ^^^ (-1))) = 0 then ((Parting_isSo N s0 s1 s2 v4 v3).bind (fun z4 => if z4 = 0 then (Parting_seek_b74 N kh34 s0 s1 s2 v3 v4) else ((Parting_gather N s0 s1 v4).bind (fun z7 => Parting_seek_b74 N kh34 z7 s1 s2 v3 v4)))) else (Parting_seek_b74 N kh34 s0 s1 s2 v3 v4))
def Parting_seek_h34 (N : Nat) (s1 : zSt) (s2 : zSt) (v3 : Int32) : Nat → zSt → Int32 → Option (zSt)
  | 0 => fun _ _ => none
  | n + 1 => fun s0 v4 => Parting_seek_b34 N (Parting_seek_h34 N s1 s2 v3 n) s0 s1 s2 v3 v4
theorem Parting_seek_h34_s (N : Nat) (s1 : zSt) (s2 : zSt) (v3 : Int32) (n : Nat) (s0 : zSt) (v4 : Int32) : Parting_seek_h34 N s1 s2 v3 (n + 1) s0 v4 = Parting_seek_b34 N (Parting_seek_h34 N s1 s2 v3 n) s0 s1 s2 v3 v4 := rfl
def Parting_seek_b0 (N : Nat) (s0 : zSt) (s1 : zSt) (s2 : zSt) (v3 : Int32) : Option (zSt) :=
  Parting_seek_h34 N s1 s2 v3 N (zpI (zpI (zpI (zpI (zpI s0 6 0) 7 (zI s1 8)) 8 (zI s1 8)) 9 (-1)) 10 (-1)) 0
def Parting_seek (N : Nat) (s0 : zSt) (s1 : zSt) (s2 : zSt) (v3 : Int32) : Option (zSt) := Parting_seek_b0 N s0 s1 s2 v3
def Reader_skipBlanks_b39 (N : Nat) (kh0 : zSt → Option (zSt)) (s0 : zSt) (f1 : Nat → Int32) : Option (zSt) :=
  kh0 (zpI s0 6 ((zI s0 6) + 1))
def Reader_skipBlanks_b0 (N : Nat) (kh0 : zSt → Option (zSt)) (s0 : zSt) (f1 : Nat → Int32) : Option (zSt) :=
  if (zI s0 5) ≤ (zI s0 6) then (some (s0)) else (zck (zI s0 6) 1500 (if (f1 (Int32.toNatClampNeg (zI s0 6))) = 32 then (Reader_skipBlanks_b39 N kh0 s0 f1) else (zck (zI s0 6) 1500 (if (f1 (Int32.toNatClampNeg (zI s0 6))) = 10 then (Reader_skipBlanks_b39 N kh0 s0 f1) else (some (s0))))))
def Reader_skipBlanks_h0 (N : Nat) (f1 : (Nat → Int32)) : Nat → zSt → Option (zSt)
  | 0 => fun _ => none
  | n + 1 => fun s0 => Reader_skipBlanks_b0 N (Reader_skipBlanks_h0 N f1 n) s0 f1
theorem Reader_skipBlanks_h0_s (N : Nat) (f1 : (Nat → Int32)) (n : Nat) (s0 : zSt) : Reader_skipBlanks_h0 N f1 (n + 1) s0 = Reader_skipBlanks_b0 N (Reader_skipBlanks_h0 N f1 n) s0 f1 := rfl
def Reader_skipBlanks (N : Nat) (s0 : zSt) (f1 : Nat → Int32) : Option (zSt) := Reader_skipBlanks_h0 N f1 N s0
def Reader_isLetter_b0 (N : Nat) (v0 : Int32) : Option (Int32) :=
  (CH_within N v0 97 122).bind (fun z1 => zcb z1 (some (z1)))
def Reader_isLetter (N : Nat) (v0 : Int32) : Option (Int32) := Reader_isLetter_b0 N v0
def Reader_readWord_b62 (N : Nat) (s0 : zSt) (f1 : Nat → Int32) (v1 : Int32) (v2 : Int64) : Option (Int32 × zSt) :=
  zck (zI s0 0) 205 (if 8 < ((zI s0 6) - v1) then (some (1, (zsB s0 3 (vp_updL (zB s0 3) (Int32.toNatClampNeg (zI s0 0)) v2)))) else (some (2, (zsB s0 3 (vp_updL (zB s0 3) (Int32.toNatClampNeg (zI s0 0)) v2)))))
def Reader_readWord_b7 (N : Nat) (kh7 : zSt → Int64 → Option (Int32 × zSt)) (s0 : zSt) (f1 : Nat → Int32) (v1 : Int32) (v2 : Int64) : Option (Int32 × zSt) :=
  if (zI s0 5) ≤ (zI s0 6) then (Reader_readWord_b62 N s0 f1 v1 v2) else (zck (zI s0 6) 1500 ((Reader_isLetter N (f1 (Int32.toNatClampNeg (zI s0 6)))).bind (fun z3 => if z3 = 0 then (Reader_readWord_b62 N s0 f1 v1 v2) else (zck (zI s0 6) 1500 (kh7 (zpI s0 6 ((zI s0 6) + 1)) ((v2 <<< (Int32.toInt64 8 &&& 63)) ||| (Int32.toInt64 (f1 (Int32.toNatClampNeg (zI s0 6))))))))))
def Reader_readWord_h7 (N : Nat) (f1 : (Nat → Int32)) (v1 : Int32) : Nat → zSt → Int64 → Option (Int32 × zSt)
  | 0 => fun _ _ => none
  | n + 1 => fun s0 v2 => Reader_readWord_b7 N (Reader_readWord_h7 N f1 v1 n) s0 f1 v1 v2
theorem Reader_readWord_h7_s (N : Nat) (f1 : (Nat → Int32)) (v1 : Int32) (n : Nat) (s0 : zSt) (v2 : Int64) : Reader_readWord_h7 N f1 v1 (n + 1) s0 v2 = Reader_readWord_b7 N (Reader_readWord_h7 N f1 v1 n) s0 f1 v1 v2 := rfl
def Reader_readWord_b0 (N : Nat) (s0 : zSt) (f1 : Nat → Int32) : Option (Int32 × zSt) :=
  Reader_readWord_h7 N f1 (zI s0 6) N s0 0
def Reader_readWord (N : Nat) (s0 : zSt) (f1 : Nat → Int32) : Option (Int32 × zSt) := Reader_readWord_b0 N s0 f1
def Reader_isDigit_b0 (N : Nat) (v0 : Int32) : Option (Int32) :=
  (CH_within N v0 48 57).bind (fun z1 => zcb z1 (some (z1)))
def Reader_isDigit (N : Nat) (v0 : Int32) : Option (Int32) := Reader_isDigit_b0 N v0
def Reader_readNumber_b108 (N : Nat) (s0 : zSt) (f1 : Nat → Int32) (v1 : Int32) (t0 : Int32) : Option (Int32 × zSt) :=
  if 4 < ((zI s0 6) - v1) then (some (1, s0)) else (if t0 = 0 then (some (3, s0)) else (some (1, s0)))
def Reader_readNumber_b107 (N : Nat) (s0 : zSt) (f1 : Nat → Int32) (v1 : Int32) : Option (Int32 × zSt) :=
  Reader_readNumber_b108 N s0 f1 v1 0
def Reader_readNumber_b67 (N : Nat) (s0 : zSt) (f1 : Nat → Int32) (v1 : Int32) (v2 : Int64) : Option (Int32 × zSt) :=
  zck (zI s0 0) 205 (if (zI s0 5) ≤ (zI s0 6) then (Reader_readNumber_b107 N (zsB s0 3 (vp_updL (zB s0 3) (Int32.toNatClampNeg (zI s0 0)) v2)) f1 v1) else (zck (zI s0 6) 1500 ((Reader_isLetter N (f1 (Int32.toNatClampNeg (zI s0 6)))).bind (fun z4 => if z4 = 0 then (Reader_readNumber_b107 N (zsB s0 3 (vp_updL (zB s0 3) (Int32.toNatClampNeg (zI s0 0)) v2)) f1 v1) else (Reader_readNumber_b108 N (zsB s0 3 (vp_updL (zB s0 3) (Int32.toNatClampNeg (zI s0 0)) v2)) f1 v1 1)))))
def Reader_readNumber_b7 (N : Nat) (kh7 : zSt → Int64 → Option (Int32 × zSt)) (s0 : zSt) (f1 : Nat → Int32) (v1 : Int32) (v2 : Int64) : Option (Int32 × zSt) :=
  if (zI s0 5) ≤ (zI s0 6) then (Reader_readNumber_b67 N s0 f1 v1 v2) else (zck (zI s0 6) 1500 ((Reader_isDigit N (f1 (Int32.toNatClampNeg (zI s0 6)))).bind (fun z3 => if z3 = 0 then (Reader_readNumber_b67 N s0 f1 v1 v2) else (zck (zI s0 6) 1500 (kh7 (zpI s0 6 ((zI s0 6) + 1)) (((v2 * 10) + (Int32.toInt64 (f1 (Int32.toNatClampNeg (zI s0 6))))) - 48))))))
def Reader_readNumber_h7 (N : Nat) (f1 : (Nat → Int32)) (v1 : Int32) : Nat → zSt → Int64 → Option (Int32 × zSt)
  | 0 => fun _ _ => none
  | n + 1 => fun s0 v2 => Reader_readNumber_b7 N (Reader_readNumber_h7 N f1 v1 n) s0 f1 v1 v2
theorem Reader_readNumber_h7_s (N : Nat) (f1 : (Nat → Int32)) (v1 : Int32) (n : Nat) (s0 : zSt) (v2 : Int64) : Reader_readNumber_h7 N f1 v1 (n + 1) s0 v2 = Reader_readNumber_b7 N (Reader_readNumber_h7 N f1 v1 n) s0 f1 v1 v2 := rfl
def Reader_readNumber_b0 (N : Nat) (s0 : zSt) (f1 : Nat → Int32) : Option (Int32 × zSt) :=
  Reader_readNumber_h7 N f1 (zI s0 6) N s0 0
def Reader_readNumber (N : Nat) (s0 : zSt) (f1 : Nat → Int32) : Option (Int32 × zSt) := Reader_readNumber_b0 N s0 f1
def Reader_readToken_b72 (N : Nat) (s0 : zSt) (f1 : Nat → Int32) (t0 : Int32) : Option (Int32 × zSt) :=
  if t0 = 0 then (some (1, (zpI s0 6 ((zI s0 6) + 1)))) else (some (4, (zpI s0 6 ((zI s0 6) + 1))))
def Reader_readToken_b0 (N : Nat) (s0 : zSt) (f1 : Nat → Int32) : Option (Int32 × zSt) :=
  if (zI s0 6) < (zI s0 5) then (zck (zI s0 6) 1500 ((Reader_isLetter N (f1 (Int32.toNatClampNeg (zI s0 6)))).bind (fun z3 => if z3 = 0 then (zck (zI s0 6) 1500 ((Reader_isDigit N (f1 (Int32.toNatClampNeg (zI s0 6)))).bind (fun z7 => if z7 = 0 then (zck (zI s0 6) 1500 (if (f1 (Int32.toNatClampNeg (zI s0 6))) = 59 then (Reader_readToken_b72 N s0 f1 1) else (Reader_readToken_b72 N s0 f1 0))) else ((Reader_readNumber N s0 f1).bind (fun z12 => some (z12.1, z12.2)))))) else ((Reader_readWord N s0 f1).bind (fun z14 => some (z14.1, z14.2)))))) else (some (0, s0))
def Reader_readToken (N : Nat) (s0 : zSt) (f1 : Nat → Int32) : Option (Int32 × zSt) := Reader_readToken_b0 N s0 f1
def Reader_read_b25 (N : Nat) (kh25 : zSt → Int32 → Option (zSt)) (s0 : zSt) (f1 : Nat → Int32) (v2 : Int32) : Option (zSt) :=
  if v2 = 0 then (some (s0)) else (if v2 = 1 then (some (s0)) else (if 205 ≤ (zI s0 0) then (some (s0)) else ((Reader_skipBlanks N s0 f1).bind (fun z4 => zck (zI z4 0) 205 ((Reader_readToken N (zsA (zmg [1,2,3] z4 s0) 2 (upd (zA s0 2) (Int32.toNatClampNeg (zI z4 0)) (zI z4 6))) f1).bind (fun z7 => zck (zI z7.2 0) 205 (kh25 (zpI (zsA (zmg [1,2] z7.2 (zsA (zmg [1,2,3] z4 s0) 2 (upd (zA s0 2) (Int32.toNatClampNeg (zI z4 0)) (zI z4 6)))) 1 (upd (zA s0 1) (Int32.toNatClampNeg (zI z7.2 0)) z7.1)) 0 ((zI z7.2 0) + 1)) z7.1)))))))
def Reader_read_h25 (N : Nat) (f1 : (Nat → Int32)) : Nat → zSt → Int32 → Option (zSt)
  | 0 => fun _ _ => none
  | n + 1 => fun s0 v2 => Reader_read_b25 N (Reader_read_h25 N f1 n) s0 f1 v2
theorem Reader_read_h25_s (N : Nat) (f1 : (Nat → Int32)) (n : Nat) (s0 : zSt) (v2 : Int32) : Reader_read_h25 N f1 (n + 1) s0 v2 = Reader_read_b25 N (Reader_read_h25 N f1 n) s0 f1 v2 := rfl
def Reader_read_b0 (N : Nat) (s0 : zSt) (f1 : Nat → Int32) (v1 : Int32) : Option (zSt) :=
  (Math_min N v1 1500).bind (fun z1 => Reader_read_h25 N f1 N (zpI (zpI (zpI s0 5 z1) 6 0) 0 0) 2)
def Reader_read (N : Nat) (s0 : zSt) (f1 : Nat → Int32) (v1 : Int32) : Option (zSt) := Reader_read_b0 N s0 f1 v1
def Sets_begin_b67 (N : Nat) (kh7 : zSt → Int32 → Option (zSt)) (s0 : zSt) (s1 : zSt) (s2 : zSt) (v3 : Int32) : Option (zSt) :=
  kh7 s0 (v3 + 1)
def Sets_begin_b7 (N : Nat) (kh7 : zSt → Int32 → Option (zSt)) (s0 : zSt) (s1 : zSt) (s2 : zSt) (v3 : Int32) : Option (zSt) :=
  if (zI s1 3) ≤ v3 then ((Arrays_fill N 48 (zA s0 11) 0).bind (fun z2 => (Arrays_fill N 64 (zA s0 13) 0).bind (fun z4 => some ((zsA (zsA (zpI (zpI (zpI (zpI (zpI (zpI s0 0 0) 1 (-1)) 2 (-1)) 3 0) 4 (-1)) 5 (-1)) 11 z2) 13 z4))))) else (zck v3 11 (if (((zI s2 0) >>> (((zA s1 5) (Int32.toNatClampNeg v3)) &&& 31)) &&& 1) = 1 then (zck (zI s0 7) 11 (zck v3 11 (zck (zI s0 7) 11 (Sets_begin_b67 N kh7 (zpI (zsA (zsA s0 8 (upd (zA s0 8) (Int32.toNatClampNeg (zI s0 7)) v3)) 9 (upd (zA s0 9) (Int32.toNatClampNeg (zI s0 7)) ((zA s1 5) (Int32.toNatClampNeg v3)))) 7 ((zI s0 7) + 1)) s1 s2 v3)))) else (Sets_begin_b67 N kh7 s0 s1 s2 v3)))
def Sets_begin_h7 (N : Nat) (s1 : zSt) (s2 : zSt) : Nat → zSt → Int32 → Option (zSt)
  | 0 => fun _ _ => none
  | n + 1 => fun s0 v3 => Sets_begin_b7 N (Sets_begin_h7 N s1 s2 n) s0 s1 s2 v3
theorem Sets_begin_h7_s (N : Nat) (s1 : zSt) (s2 : zSt) (n : Nat) (s0 : zSt) (v3 : Int32) : Sets_begin_h7 N s1 s2 (n + 1) s0 v3 = Sets_begin_b7 N (Sets_begin_h7 N s1 s2 n) s0 s1 s2 v3 := rfl
def Sets_begin_b0 (N : Nat) (s0 : zSt) (s1 : zSt) (s2 : zSt) : Option (zSt) :=
  Sets_begin_h7 N s1 s2 N (zpI s0 7 0) 0
def Sets_begin (N : Nat) (s0 : zSt) (s1 : zSt) (s2 : zSt) : Option (zSt) := Sets_begin_b0 N s0 s1 s2
def Sets_add_b3 (N : Nat) (kh3 : (Nat → Int32) → Int32 → Option ((Nat → Int32))) (s0 : zSt) (n1 : Nat) (f1 : Nat → Int32) (s2 : zSt) (v1 : Int32) (v2 : Int32) (v5 : Int32) : Option ((Nat → Int32)) :=
  if (zI s2 2) ≤ v5 then (some (f1)) else (zck v5 4 (zck v1 11 (zck ((((zA s2 3) (Int32.toNatClampNeg v5)) * 12) + ((zA s0 9) (Int32.toNatClampNeg v1))) n1 (zck ((v1 * 4) + ((zA s2 3) (Int32.toNatClampNeg v5))) 44 (zck ((((zA s2 3) (Int32.toNatClampNeg v5)) * 12) + ((zA s0 9) (Int32.toNatClampNeg v1))) n1 (kh3 (upd f1 (Int32.toNatClampNeg ((((zA s2 3) (Int32.toNatClampNeg v5)) * 12) + ((zA s0 9) (Int32.toNatClampNeg v1)))) ((f1 (Int32.toNatClampNeg ((((zA s2 3) (Int32.toNatClampNeg v5)) * 12) + ((zA s0 9) (Int32.toNatClampNeg v1))))) + (v2 * ((zA s0 10) (Int32.toNatClampNeg ((v1 * 4) + ((zA s2 3) (Int32.toNatClampNeg v5)))))))) (v5 + 1)))))))
def Sets_add_h3 (N : Nat) (s0 : zSt) (n1 : Nat) (s2 : zSt) (v1 : Int32) (v2 : Int32) : Nat → (Nat → Int32) → Int32 → Option ((Nat → Int32))
  | 0 => fun _ _ => none
  | n + 1 => fun f1 v5 => Sets_add_b3 N (Sets_add_h3 N s0 n1 s2 v1 v2 n) s0 n1 f1 s2 v1 v2 v5
theorem Sets_add_h3_s (N : Nat) (s0 : zSt) (n1 : Nat) (s2 : zSt) (v1 : Int32) (v2 : Int32) (n : Nat) (f1 : (Nat → Int32)) (v5 : Int32) : Sets_add_h3 N s0 n1 s2 v1 v2 (n + 1) f1 v5 = Sets_add_b3 N (Sets_add_h3 N s0 n1 s2 v1 v2 n) s0 n1 f1 s2 v1 v2 v5 := rfl
def Sets_add_b0 (N : Nat) (s0 : zSt) (n1 : Nat) (f1 : Nat → Int32) (s2 : zSt) (v1 : Int32) (v2 : Int32) : Option ((Nat → Int32)) :=
  Sets_add_h3 N s0 n1 s2 v1 v2 N f1 0
def Sets_add (N : Nat) (s0 : zSt) (n1 : Nat) (f1 : Nat → Int32) (s2 : zSt) (v1 : Int32) (v2 : Int32) : Option ((Nat → Int32)) := Sets_add_b0 N s0 n1 f1 s2 v1 v2
def Sets_weigh_b23 (N : Nat) (kh11 : zSt → Int32 → Option (zSt)) (kh23 : zSt → Int32 → Option (zSt)) (s0 : zSt) (s1 : zSt) (s2 : zSt) (v3 : Int32) (v4 : Int32) (v5 : Int32) (v6 : Int32) : Option (zSt) :=
  if (zI s2 2) ≤ v6 then ((Sets_add N s0 48 (zA s0 12) s2 v5 1).bind (fun z2 => kh11 (zsA s0 12 z2) (v5 + 1))) else (zck v6 4 (zck v5 11 ((Valley_loudAt N s1 ((zA s0 8) (Int32.toNatClampNeg v5)) ((zA s2 3) (Int32.toNatClampNeg v6)) v3 v4).bind (fun z6 => zck ((v5 * 4) + ((zA s2 3) (Int32.toNatClampNeg v6))) 44 (kh23 (zsA s0 10 (upd (zA s0 10) (Int32.toNatClampNeg ((v5 * 4) + ((zA s2 3) (Int32.toNatClampNeg v6)))) z6)) (v6 + 1))))))
def Sets_weigh_h23 (N : Nat) (kh11 : zSt → Int32 → Option (zSt)) (s1 : zSt) (s2 : zSt) (v3 : Int32) (v4 : Int32) (v5 : Int32) : Nat → zSt → Int32 → Option (zSt)
  | 0 => fun _ _ => none
  | n + 1 => fun s0 v6 => Sets_weigh_b23 N kh11 (Sets_weigh_h23 N kh11 s1 s2 v3 v4 v5 n) s0 s1 s2 v3 v4 v5 v6
theorem Sets_weigh_h23_s (N : Nat) (kh11 : zSt → Int32 → Option (zSt)) (s1 : zSt) (s2 : zSt) (v3 : Int32) (v4 : Int32) (v5 : Int32) (n : Nat) (s0 : zSt) (v6 : Int32) : Sets_weigh_h23 N kh11 s1 s2 v3 v4 v5 (n + 1) s0 v6 = Sets_weigh_b23 N kh11 (Sets_weigh_h23 N kh11 s1 s2 v3 v4 v5 n) s0 s1 s2 v3 v4 v5 v6 := rfl
def Sets_weigh_b11 (N : Nat) (kh11 : zSt → Int32 → Option (zSt)) (s0 : zSt) (s1 : zSt) (s2 : zSt) (v3 : Int32) (v4 : Int32) (v5 : Int32) : Option (zSt) :=
  if (zI s0 7) ≤ v5 then (some (s0)) else (Sets_weigh_h23 N kh11 s1 s2 v3 v4 v5 N s0 0)
def Sets_weigh_h11 (N : Nat) (s1 : zSt) (s2 : zSt) (v3 : Int32) (v4 : Int32) : Nat → zSt → Int32 → Option (zSt)
  | 0 => fun _ _ => none
  | n + 1 => fun s0 v5 => Sets_weigh_b11 N (Sets_weigh_h11 N s1 s2 v3 v4 n) s0 s1 s2 v3 v4 v5
theorem Sets_weigh_h11_s (N : Nat) (s1 : zSt) (s2 : zSt) (v3 : Int32) (v4 : Int32) (n : Nat) (s0 : zSt) (v5 : Int32) : Sets_weigh_h11 N s1 s2 v3 v4 (n + 1) s0 v5 = Sets_weigh_b11 N (Sets_weigh_h11 N s1 s2 v3 v4 n) s0 s1 s2 v3 v4 v5 := rfl
def Sets_weigh_b0 (N : Nat) (s0 : zSt) (s1 : zSt) (s2 : zSt) (v3 : Int32) (v4 : Int32) : Option (zSt) :=
  (Arrays_fill N 48 (zA s0 12) 0).bind (fun z1 => Sets_weigh_h11 N s1 s2 v3 v4 N (zsA s0 12 z1) 0)
def Sets_weigh (N : Nat) (s0 : zSt) (s1 : zSt) (s2 : zSt) (v3 : Int32) (v4 : Int32) : Option (zSt) := Sets_weigh_b0 N s0 s1 s2 v3 v4
def Sets_anyCanBe_b2 (N : Nat) (kh2 : Int32 → Option (Int32)) (s0 : zSt) (s1 : zSt) (v2 : Int32) : Option (Int32) :=
  if 12 ≤ v2 then (some (1)) else ((Bounds_canBe N s1 48 (zA s0 11) 48 (zA s0 12) v2).bind (fun z2 => if z2 = 0 then (some (0)) else (kh2 (v2 + 1))))
def Sets_anyCanBe_h2 (N : Nat) (s0 : zSt) (s1 : zSt) : Nat → Int32 → Option (Int32)
  | 0 => fun _ => none
  | n + 1 => fun v2 => Sets_anyCanBe_b2 N (Sets_anyCanBe_h2 N s0 s1 n) s0 s1 v2
theorem Sets_anyCanBe_h2_s (N : Nat) (s0 : zSt) (s1 : zSt) (n : Nat) (v2 : Int32) : Sets_anyCanBe_h2 N s0 s1 (n + 1) v2 = Sets_anyCanBe_b2 N (Sets_anyCanBe_h2 N s0 s1 n) s0 s1 v2 := rfl
def Sets_anyCanBe_b0 (N : Nat) (s0 : zSt) (s1 : zSt) : Option (Int32) :=
  Sets_anyCanBe_h2 N s0 s1 N 0
def Sets_anyCanBe (N : Nat) (s0 : zSt) (s1 : zSt) : Option (Int32) := Sets_anyCanBe_b0 N s0 s1
def Sets_allSeen_b55 (N : Nat) (s0 : zSt) (v4 : Int32) (v5 : Int32) : Option (Int32) :=
  zck (v4 / 32) 64 (if (((zA s0 13) (Int32.toNatClampNeg (v4 / 32))) &&& v5) = v5 then (some (1)) else (some (0)))
def Sets_allSeen_b0 (N : Nat) (s0 : zSt) (v1 : Int32) (v2 : Int32) : Option (Int32) :=
  if ((1 : Int32) <<< (((zI s0 7) - v1) &&& 31)) ≤ 32 then (Sets_allSeen_b55 N s0 (v2 <<< (((zI s0 7) - v1) &&& 31)) (((Int32.toUInt32 (-1) >>> (Int32.toUInt32 (32 - ((1 : Int32) <<< (((zI s0 7) - v1) &&& 31))) &&& Int32.toUInt32 31)).toInt32) <<< (((v2 <<< (((zI s0 7) - v1) &&& 31)) - (v2 <<< (((zI s0 7) - v1) &&& 31)) / 32 * 32) &&& 31))) else (if (zI s0 0) = ((1 : Int32) <<< ((zI s0 7) &&& 31)) then (some (1)) else (some (0)))
def Sets_allSeen (N : Nat) (s0 : zSt) (v1 : Int32) (v2 : Int32) : Option (Int32) := Sets_allSeen_b0 N s0 v1 v2
def Sets_keep_b0 (N : Nat) (s0 : zSt) (v1 : Int32) : Option (zSt) :=
  zck (v1 / 32) 64 (if (((zA s0 13) (Int32.toNatClampNeg (v1 / 32))) &&& ((1 : Int32) <<< ((v1 - v1 / 32 * 32) &&& 31))) = 0 then (zck (v1 / 32) 64 (zck (v1 / 32) 64 (some ((zpI (zpI (zpI (zsA (zpI s0 6 1) 13 (upd (zA s0 13) (Int32.toNatClampNeg (v1 / 32)) (((zA s0 13) (Int32.toNatClampNeg (v1 / 32))) ||| ((1 : Int32) <<< ((v1 - v1 / 32 * 32) &&& 31))))) 0 ((zI s0 0) + 1)) 1 ((zI s0 1) &&& v1)) 2 ((zI s0 2) &&& (v1 ^^^ (-1)))))))) else (some ((zpI s0 6 1))))
def Sets_keep (N : Nat) (s0 : zSt) (v1 : Int32) : Option (zSt) := Sets_keep_b0 N s0 v1
def Sets_choose_b119 (N : Nat) (kr : zSt → zSt → Int32 → Int32 → Option (zSt)) (s0 : zSt) (s1 : zSt) (v1 : Int32) : Option (zSt) :=
  (Sets_add N s0 48 (zA s0 11) s1 v1 (-1)).bind (fun z1 => (Sets_add N (zsA s0 11 z1) 48 (zA s0 12) s1 v1 1).bind (fun z3 => some ((zsA (zsA s0 11 z1) 12 z3))))
def Sets_choose_b74 (N : Nat) (kr : zSt → zSt → Int32 → Int32 → Option (zSt)) (s0 : zSt) (s1 : zSt) (v1 : Int32) (v2 : Int32) : Option (zSt) :=
  (Sets_add N s0 48 (zA s0 11) s1 v1 1).bind (fun z1 => zck v1 11 ((Bounds_canBe N s1 48 z1 48 (zA s0 12) ((zA s0 9) (Int32.toNatClampNeg v1))).bind (fun z4 => if z4 = 0 then (Sets_choose_b119 N kr (zsA s0 11 z1) s1 v1) else ((kr (zsA s0 11 z1) s1 (v1 + 1) ((v2 <<< (1 &&& 31)) ||| 1)).bind (fun z7 => Sets_choose_b119 N kr z7 s1 v1)))))
def Sets_choose_b17 (N : Nat) (kr : zSt → zSt → Int32 → Int32 → Option (zSt)) (s0 : zSt) (s1 : zSt) (v1 : Int32) (v2 : Int32) : Option (zSt) :=
  if v1 < (zI s0 7) then ((Sets_add N s0 48 (zA s0 12) s1 v1 (-1)).bind (fun z2 => zck v1 11 ((Bounds_canBe N s1 48 (zA s0 11) 48 z2 ((zA s0 9) (Int32.toNatClampNeg v1))).bind (fun z5 => if z5 = 0 then (Sets_choose_b74 N kr (zsA s0 12 z2) s1 v1 v2) else ((kr (zsA s0 12 z2) s1 (v1 + 1) (v2 <<< (1 &&& 31))).bind (fun z8 => Sets_choose_b74 N kr z8 s1 v1 v2)))))) else ((Sets_keep N s0 v2).bind (fun z10 => some ((zmg [9,10,11,12] z10 s0))))
def Sets_choose_b0 (N : Nat) (kr : zSt → zSt → Int32 → Int32 → Option (zSt)) (s0 : zSt) (s1 : zSt) (v1 : Int32) (v2 : Int32) : Option (zSt) :=
  if (zI s0 6) = 0 then (Sets_choose_b17 N kr s0 s1 v1 v2) else ((Sets_allSeen N s0 v1 v2).bind (fun z2 => if z2 = 0 then (Sets_choose_b17 N kr s0 s1 v1 v2) else (some (s0))))
def Sets_choose (N : Nat) : Nat → zSt → zSt → Int32 → Int32 → Option (zSt)
  | 0 => fun _ _ _ _ => none
  | d + 1 => fun s0 s1 v1 v2 => Sets_choose_b0 N (Sets_choose N d) s0 s1 v1 v2
theorem Sets_choose_s (N d : Nat) (s0 : zSt) (s1 : zSt) (v1 : Int32) (v2 : Int32) : Sets_choose N (d + 1) s0 s1 v1 v2 = Sets_choose_b0 N (Sets_choose N d) s0 s1 v1 v2 := rfl
def Sets_spread_b4 (N : Nat) (kh4 : Int32 → Int32 → Option (Int32)) (s0 : zSt) (v1 : Int32) (v2 : Int32) (v3 : Int32) : Option (Int32) :=
  if (zI s0 7) ≤ v3 then (some (v2)) else (zck v3 11 (kh4 (v2 ||| (((v1 >>> ((((zI s0 7) - 1) - v3) &&& 31)) &&& 1) <<< (((zA s0 8) (Int32.toNatClampNeg v3)) &&& 31))) (v3 + 1)))
def Sets_spread_h4 (N : Nat) (s0 : zSt) (v1 : Int32) : Nat → Int32 → Int32 → Option (Int32)
  | 0 => fun _ _ => none
  | n + 1 => fun v2 v3 => Sets_spread_b4 N (Sets_spread_h4 N s0 v1 n) s0 v1 v2 v3
theorem Sets_spread_h4_s (N : Nat) (s0 : zSt) (v1 : Int32) (n : Nat) (v2 : Int32) (v3 : Int32) : Sets_spread_h4 N s0 v1 (n + 1) v2 v3 = Sets_spread_b4 N (Sets_spread_h4 N s0 v1 n) s0 v1 v2 v3 := rfl
def Sets_spread_b0 (N : Nat) (s0 : zSt) (v1 : Int32) : Option (Int32) :=
  Sets_spread_h4 N s0 v1 N 0 0
def Sets_spread (N : Nat) (s0 : zSt) (v1 : Int32) : Option (Int32) := Sets_spread_b0 N s0 v1
def Sets_seek_b138 (N : Nat) (s0 : zSt) (s1 : zSt) (s2 : zSt) (t1 : Int32) : Option (zSt) :=
  some ((zpI (zpI s0 2 t1) 0 ((zI s0 0) <<< (((zI s1 3) - (zI s0 7)) &&& 31))))
def Sets_seek_b115 (N : Nat) (s0 : zSt) (s1 : zSt) (s2 : zSt) (t1 : Int32) : Option (zSt) :=
  if (zI s0 0) = 0 then (Sets_seek_b138 N (zpI s0 1 t1) s1 s2 0) else ((Sets_spread N (zpI s0 1 t1) (zI s0 2)).bind (fun z2 => Sets_seek_b138 N (zpI s0 1 t1) s1 s2 z2))
def Sets_seek_b89 (N : Nat) (kh9 : zSt → Int32 → Option (zSt)) (s0 : zSt) (s1 : zSt) (s2 : zSt) (v3 : Int32) (v4 : Int32) : Option (zSt) :=
  kh9 s0 (v4 + 1)
def Sets_seek_b80 (N : Nat) (kh9 : zSt → Int32 → Option (zSt)) (s0 : zSt) (s1 : zSt) (s2 : zSt) (v3 : Int32) (v4 : Int32) (t1 : Int32) : Option (zSt) :=
  Sets_seek_b89 N kh9 (zpI (zpI s0 4 t1) 5 v4) s1 s2 v3 v4
def Sets_seek_b45 (N : Nat) (kh9 : zSt → Int32 → Option (zSt)) (s0 : zSt) (s1 : zSt) (s2 : zSt) (v3 : Int32) (v4 : Int32) : Option (zSt) :=
  if (zI s0 6) = 0 then (Sets_seek_b89 N kh9 s0 s1 s2 v3 v4) else (if (zI s0 4) = (-1) then (Sets_seek_b80 N kh9 (zpI s0 3 ((zI s0 3) + 1)) s1 s2 v3 v4 v4) else (Sets_seek_b80 N kh9 (zpI s0 3 ((zI s0 3) + 1)) s1 s2 v3 v4 (zI s0 4)))
def Sets_seek_b9 (N : Nat) (kh9 : zSt → Int32 → Option (zSt)) (s0 : zSt) (s1 : zSt) (s2 : zSt) (v3 : Int32) (v4 : Int32) : Option (zSt) :=
  if 99 < v4 then (if (zI s0 0) = 0 then (Sets_seek_b115 N s0 s1 s2 0) else ((Sets_spread N s0 (zI s0 1)).bind (fun z3 => Sets_seek_b115 N s0 s1 s2 z3))) else ((Sets_weigh N s0 s1 s2 v4 v3).bind (fun z5 => (Sets_anyCanBe N (zpI (zmg [11,13] z5 s0) 6 0) s2).bind (fun z7 => if z7 = 0 then (Sets_seek_b45 N kh9 (zpI (zmg [11,13] z5 s0) 6 0) s1 s2 v3 v4) else ((Sets_choose N 14 (zpI (zmg [11,13] z5 s0) 6 0) s2 0 0).bind (fun z10 => Sets_seek_b45 N kh9 (zmg [8] z10 (zpI (zmg [11,13] z5 s0) 6 0)) s1 s2 v3 v4)))))
def Sets_seek_h9 (N : Nat) (s1 : zSt) (s2 : zSt) (v3 : Int32) : Nat → zSt → Int32 → Option (zSt)
  | 0 => fun _ _ => none
  | n + 1 => fun s0 v4 => Sets_seek_b9 N (Sets_seek_h9 N s1 s2 v3 n) s0 s1 s2 v3 v4
theorem Sets_seek_h9_s (N : Nat) (s1 : zSt) (s2 : zSt) (v3 : Int32) (n : Nat) (s0 : zSt) (v4 : Int32) : Sets_seek_h9 N s1 s2 v3 (n + 1) s0 v4 = Sets_seek_b9 N (Sets_seek_h9 N s1 s2 v3 n) s0 s1 s2 v3 v4 := rfl
def Sets_seek_b0 (N : Nat) (s0 : zSt) (s1 : zSt) (s2 : zSt) (v3 : Int32) : Option (zSt) :=
  (Sets_begin N s0 s1 s2).bind (fun z1 => Sets_seek_h9 N s1 s2 v3 N (zmg [10,12] z1 s0) 0)
def Sets_seek (N : Nat) (s0 : zSt) (s1 : zSt) (s2 : zSt) (v3 : Int32) : Option (zSt) := Sets_seek_b0 N s0 s1 s2 v3
def Valley_clear_b0 (N : Nat) (s0 : zSt) : Option (zSt) :=
  some ((zpI (zpI (zpI (zpI (zpI (zpI s0 0 0) 3 0) 8 0) 9 0) 11 0) 12 0))
def Valley_clear (N : Nat) (s0 : zSt) : Option (zSt) := Valley_clear_b0 N s0
def Teller_isAtEnd_b0 (N : Nat) (s0 : zSt) (s1 : zSt) : Option (Int32) :=
  if (zI s1 0) ≤ (zI s0 3) then (some (0)) else (zck (zI s0 3) 205 (if ((zA s1 1) (Int32.toNatClampNeg (zI s0 3))) = 0 then (some (1)) else (some (0))))
def Teller_isAtEnd (N : Nat) (s0 : zSt) (s1 : zSt) : Option (Int32) := Teller_isAtEnd_b0 N s0 s1
def Teller_refuse_b0 (N : Nat) (s0 : zSt) (v1 : Int32) : Option (Int32 × zSt) :=
  some (0, (zpI (zpI s0 0 v1) 1 (zI s0 4)))
def Teller_refuse (N : Nat) (s0 : zSt) (v1 : Int32) : Option (Int32 × zSt) := Teller_refuse_b0 N s0 v1
def Teller_take_b99 (N : Nat) (s0 : zSt) (s1 : zSt) : Option (Int32 × zSt) :=
  some (1, s0)
def Teller_take_b0 (N : Nat) (s0 : zSt) (s1 : zSt) (v1 : Int32) : Option (Int32 × zSt) :=
  if (zI s0 3) < (zI s1 0) then (zck (zI s0 3) 205 (zck (zI s0 3) 205 (zck (zI s0 3) 205 (if ((zA s1 1) (Int32.toNatClampNeg (zI s0 3))) = 1 then ((Teller_refuse N (zpI (zpL (zpI s0 4 ((zA s1 2) (Int32.toNatClampNeg (zI s0 3)))) 5 ((zB s1 3) (Int32.toNatClampNeg (zI s0 3)))) 3 ((zI s0 3) + 1)) 1).bind (fun z10 => zcb z10.1 (some (z10.1, z10.2)))) else (if ((zA s1 1) (Int32.toNatClampNeg (zI s0 3))) = v1 then (Teller_take_b99 N (zpI (zpL (zpI s0 4 ((zA s1 2) (Int32.toNatClampNeg (zI s0 3)))) 5 ((zB s1 3) (Int32.toNatClampNeg (zI s0 3)))) 3 ((zI s0 3) + 1)) s1) else ((Teller_refuse N (zpI (zpL (zpI s0 4 ((zA s1 2) (Int32.toNatClampNeg (zI s0 3)))) 5 ((zB s1 3) (Int32.toNatClampNeg (zI s0 3)))) 3 ((zI s0 3) + 1)) 2).bind (fun z7 => if z7.1 = 0 then (some (0, z7.2)) else (Teller_take_b99 N z7.2 s1)))))))) else ((Teller_refuse N s0 2).bind (fun z13 => zcb z13.1 (some (z13.1, z13.2))))
def Teller_take (N : Nat) (s0 : zSt) (s1 : zSt) (v1 : Int32) : Option (Int32 × zSt) := Teller_take_b0 N s0 s1 v1
def Teller_standsForItself_b72 (N : Nat) : Option (Int32) :=
  some (1)
def Teller_standsForItself_b0 (N : Nat) (v0 : Int64) : Option (Int32) :=
  if (lg_cmp v0 1751478884) = 0 then (Teller_standsForItself_b72 N) else (if (lg_cmp v0 422607680372) = 0 then (Teller_standsForItself_b72 N) else (if (lg_cmp v0 28518) = 0 then (Teller_standsForItself_b72 N) else (if (lg_cmp v0 1650814060) = 0 then (Teller_standsForItself_b72 N) else (if (lg_cmp v0 1819243876) = 0 then (Teller_standsForItself_b72 N) else (if (lg_cmp v0 8319400174449812850) = 0 then (Teller_standsForItself_b72 N) else (if (lg_cmp v0 6644082) = 0 then (Teller_standsForItself_b72 N) else (if (lg_cmp v0 24948) = 0 then (Teller_standsForItself_b72 N) else (if (lg_cmp v0 108187867505765) = 0 then (Teller_standsForItself_b72 N) else (some (0))))))))))
def Teller_standsForItself (N : Nat) (v0 : Int64) : Option (Int32) := Teller_standsForItself_b0 N v0
def Teller_takeName_b26 (N : Nat) (s0 : zSt) (s1 : zSt) : Option (Int32 × zSt) :=
  some (1, s0)
def Teller_takeName_b0 (N : Nat) (s0 : zSt) (s1 : zSt) : Option (Int32 × zSt) :=
  (Teller_take N s0 s1 2).bind (fun z1 => if z1.1 = 0 then (some (0, z1.2)) else ((Teller_standsForItself N (zL z1.2 5)).bind (fun z4 => if z4 = 0 then (Teller_takeName_b26 N z1.2 s1) else ((Teller_refuse N z1.2 2).bind (fun z7 => if z7.1 = 0 then (some (0, z7.2)) else (Teller_takeName_b26 N z7.2 s1))))))
def Teller_takeName (N : Nat) (s0 : zSt) (s1 : zSt) : Option (Int32 × zSt) := Teller_takeName_b0 N s0 s1
def Teller_find_b3 (N : Nat) (kh3 : Int32 → Option (Int32)) (n0 : Nat) (f0 : Nat → Int64) (v0 : Int64) (v3 : Int32) (v4 : Int32) : Option (Int32) :=
  if v3 ≤ v4 then (some ((-1))) else (if (Int32.ofNat n0) ≤ v4 then (some ((-1))) else (zck v4 n0 (if (lg_cmp (f0 (Int32.toNatClampNeg v4)) v0) = 0 then (some (v4)) else (kh3 (v4 + 1)))))
def Teller_find_h3 (N : Nat) (n0 : Nat) (f0 : (Nat → Int64)) (v0 : Int64) (v3 : Int32) : Nat → Int32 → Option (Int32)
  | 0 => fun _ => none
  | n + 1 => fun v4 => Teller_find_b3 N (Teller_find_h3 N n0 f0 v0 v3 n) n0 f0 v0 v3 v4
theorem Teller_find_h3_s (N : Nat) (n0 : Nat) (f0 : (Nat → Int64)) (v0 : Int64) (v3 : Int32) (n : Nat) (v4 : Int32) : Teller_find_h3 N n0 f0 v0 v3 (n + 1) v4 = Teller_find_b3 N (Teller_find_h3 N n0 f0 v0 v3 n) n0 f0 v0 v3 v4 := rfl
def Teller_find_b0 (N : Nat) (n0 : Nat) (f0 : Nat → Int64) (v0 : Int64) (v3 : Int32) : Option (Int32) :=
  Teller_find_h3 N n0 f0 v0 v3 N 0
def Teller_find (N : Nat) (n0 : Nat) (f0 : Nat → Int64) (v0 : Int64) (v3 : Int32) : Option (Int32) := Teller_find_b0 N n0 f0 v0 v3
def Teller_takeNewName_b28 (N : Nat) (s0 : zSt) (n1 : Nat) (f1 : Nat → Int64) (s2 : zSt) : Option (Int32 × zSt) :=
  some (1, s0)
def Teller_takeNewName_b0 (N : Nat) (s0 : zSt) (n1 : Nat) (f1 : Nat → Int64) (s2 : zSt) (v2 : Int32) : Option (Int32 × zSt) :=
  (Teller_takeName N s0 s2).bind (fun z1 => if z1.1 = 0 then (some (0, z1.2)) else ((Teller_find N n1 f1 (zL z1.2 5) v2).bind (fun z4 => if z4 = (-1) then (Teller_takeNewName_b28 N z1.2 n1 f1 s2) else ((Teller_refuse N z1.2 3).bind (fun z7 => if z7.1 = 0 then (some (0, z7.2)) else (Teller_takeNewName_b28 N z7.2 n1 f1 s2))))))
def Teller_takeNewName (N : Nat) (s0 : zSt) (n1 : Nat) (f1 : Nat → Int64) (s2 : zSt) (v2 : Int32) : Option (Int32 × zSt) := Teller_takeNewName_b0 N s0 n1 f1 s2 v2
def Valley_addHerd_b0 (N : Nat) (s0 : zSt) (v1 : Int64) : Option (zSt) :=
  zck (zI s0 0) 3 (zck (zI s0 0) 3 (some ((zpI (zsA (zsB s0 1 (vp_updL (zB s0 1) (Int32.toNatClampNeg (zI s0 0)) v1)) 2 (upd (zA s0 2) (Int32.toNatClampNeg (zI s0 0)) 0)) 0 ((zI s0 0) + 1)))))
def Valley_addHerd (N : Nat) (s0 : zSt) (v1 : Int64) : Option (zSt) := Valley_addHerd_b0 N s0 v1
def Teller_tellHerd_b0 (N : Nat) (s0 : zSt) (s1 : zSt) (s2 : zSt) : Option (Int32 × zSt × zSt) :=
  if (zI s1 0) < 3 then ((Teller_takeNewName N s0 3 (zB s1 1) s2 (zI s1 0)).bind (fun z2 => if z2.1 = 0 then (some (0, z2.2, s1)) else ((Teller_take N z2.2 s2 4).bind (fun z5 => if z5.1 = 0 then (some (0, z5.2, s1)) else ((Valley_addHerd N s1 (zL z2.2 5)).bind (fun z8 => some (1, z5.2, z8))))))) else ((Teller_refuse N s0 2).bind (fun z10 => zcb z10.1 (some (z10.1, z10.2, s1))))
def Teller_tellHerd (N : Nat) (s0 : zSt) (s1 : zSt) (s2 : zSt) : Option (Int32 × zSt × zSt) := Teller_tellHerd_b0 N s0 s1 s2
def Teller_takeWord_b25 (N : Nat) (s0 : zSt) (s1 : zSt) : Option (Int32 × zSt) :=
  some (1, s0)
def Teller_takeWord_b0 (N : Nat) (s0 : zSt) (s1 : zSt) (v1 : Int64) : Option (Int32 × zSt) :=
  (Teller_take N s0 s1 2).bind (fun z1 => if z1.1 = 0 then (some (0, z1.2)) else (if (lg_cmp (zL z1.2 5) v1) = 0 then (Teller_takeWord_b25 N z1.2 s1) else ((Teller_refuse N z1.2 2).bind (fun z5 => if z5.1 = 0 then (some (0, z5.2)) else (Teller_takeWord_b25 N z5.2 s1)))))
def Teller_takeWord (N : Nat) (s0 : zSt) (s1 : zSt) (v1 : Int64) : Option (Int32 × zSt) := Teller_takeWord_b0 N s0 s1 v1
def Teller_takeNumber_b36 (N : Nat) (s0 : zSt) (s1 : zSt) : Option (Int32 × zSt) :=
  some (1, s0)
def Teller_takeNumber_b28 (N : Nat) (s0 : zSt) (s1 : zSt) : Option (Int32 × zSt) :=
  (Teller_refuse N s0 4).bind (fun z1 => if z1.1 = 0 then (some (0, z1.2)) else (Teller_takeNumber_b36 N z1.2 s1))
def Teller_takeNumber_b0 (N : Nat) (s0 : zSt) (s1 : zSt) (v1 : Int32) (v2 : Int32) : Option (Int32 × zSt) :=
  (Teller_take N s0 s1 3).bind (fun z1 => if z1.1 = 0 then (some (0, z1.2)) else (if (lg_cmp (zL z1.2 5) (Int32.toInt64 v1)) < 0 then (Teller_takeNumber_b28 N z1.2 s1) else (if (lg_cmp (zL z1.2 5) (Int32.toInt64 v2)) ≤ 0 then (Teller_takeNumber_b36 N z1.2 s1) else (Teller_takeNumber_b28 N z1.2 s1))))
def Teller_takeNumber (N : Nat) (s0 : zSt) (s1 : zSt) (v1 : Int32) (v2 : Int32) : Option (Int32 × zSt) := Teller_takeNumber_b0 N s0 s1 v1 v2
def Valley_addBell_b97 (N : Nat) (s0 : zSt) : Option (zSt) :=
  some ((zpI s0 3 ((zI s0 3) + 1)))
def Valley_addBell_b87 (N : Nat) (s0 : zSt) : Option (zSt) :=
  Valley_addBell_b97 N (zpI s0 9 ((zI s0 9) + 1))
def Valley_addBell_b0 (N : Nat) (s0 : zSt) (v1 : Int64) (v3 : Int32) (v4 : Int32) (v5 : Int32) : Option (zSt) :=
  zck (zI s0 3) 11 (zck (zI s0 3) 11 (zck (zI s0 3) 11 (zck (zI s0 3) 11 (zck (zI s0 3) 11 (if v3 = (-1) then (Valley_addBell_b97 N (zsA (zsA (zsA (zsA (zsB s0 4 (vp_updL (zB s0 4) (Int32.toNatClampNeg (zI s0 3)) v1)) 7 (upd (zA s0 7) (Int32.toNatClampNeg (zI s0 3)) v3)) 5 (upd (zA s0 5) (Int32.toNatClampNeg (zI s0 3)) v4)) 6 (upd (zA s0 6) (Int32.toNatClampNeg (zI s0 3)) v5)) 10 (upd (zA s0 10) (Int32.toNatClampNeg (zI s0 3)) 0))) else (zck v3 3 (zck v3 3 (Valley_addBell_b87 N (zsA (zpI (zsA (zsA (zsA (zsA (zsB s0 4 (vp_updL (zB s0 4) (Int32.toNatClampNeg (zI s0 3)) v1)) 7 (upd (zA s0 7) (Int32.toNatClampNeg (zI s0 3)) v3)) 5 (upd (zA s0 5) (Int32.toNatClampNeg (zI s0 3)) v4)) 6 (upd (zA s0 6) (Int32.toNatClampNeg (zI s0 3)) v5)) 10 (upd (zA s0 10) (Int32.toNatClampNeg (zI s0 3)) 0)) 8 ((zI s0 8) ||| ((1 : Int32) <<< ((zI s0 3) &&& 31)))) 2 (upd (zA s0 2) (Int32.toNatClampNeg v3) (((zA s0 2) (Int32.toNatClampNeg v3)) ||| ((1 : Int32) <<< ((zI s0 3) &&& 31)))))))))))))
def Valley_addBell (N : Nat) (s0 : zSt) (v1 : Int64) (v3 : Int32) (v4 : Int32) (v5 : Int32) : Option (zSt) := Valley_addBell_b0 N s0 v1 v3 v4 v5
def Teller_tellBell_b0 (N : Nat) (s0 : zSt) (s1 : zSt) (s2 : zSt) (v2 : Int64) (v4 : Int32) : Option (Int32 × zSt × zSt) :=
  (Teller_takeWord N s0 s2 1650814060).bind (fun z1 => if z1.1 = 0 then (some (0, z1.2, s1)) else ((Teller_takeNumber N z1.2 s2 0 11).bind (fun z4 => if z4.1 = 0 then (some (0, z4.2, s1)) else ((Teller_takeWord N z4.2 s2 1819243876).bind (fun z7 => if z7.1 = 0 then (some (0, z7.2, s1)) else ((Teller_takeNumber N z7.2 s2 1 99).bind (fun z10 => if z10.1 = 0 then (some (0, z10.2, s1)) else ((Teller_take N z10.2 s2 4).bind (fun z13 => if z13.1 = 0 then (some (0, z13.2, s1)) else ((Valley_addBell N s1 v2 v4 (Int64.toInt32 (zL z4.2 5)) (Int64.toInt32 (zL z10.2 5))).bind (fun z16 => some (1, z13.2, z16))))))))))))
def Teller_tellBell (N : Nat) (s0 : zSt) (s1 : zSt) (s2 : zSt) (v2 : Int64) (v4 : Int32) : Option (Int32 × zSt × zSt) := Teller_tellBell_b0 N s0 s1 s2 v2 v4
def Teller_tellBeast_b0 (N : Nat) (s0 : zSt) (s1 : zSt) (s2 : zSt) : Option (Int32 × zSt × zSt) :=
  if (zI s1 9) < 9 then ((Teller_takeNewName N s0 11 (zB s1 4) s2 (zI s1 3)).bind (fun z2 => if z2.1 = 0 then (some (0, z2.2, s1)) else ((Teller_takeWord N z2.2 s2 28518).bind (fun z5 => if z5.1 = 0 then (some (0, z5.2, s1)) else ((Teller_takeName N z5.2 s2).bind (fun z8 => if z8.1 = 0 then (some (0, z8.2, s1)) else ((Teller_find N 3 (zB s1 1) (zL z8.2 5) (zI s1 0)).bind (fun z11 => if z11 = (-1) then ((Teller_refuse N z8.2 5).bind (fun z17 => zcb z17.1 (some (z17.1, z17.2, s1)))) else ((Teller_tellBell N z8.2 s1 s2 (zL z2.2 5) z11).bind (fun z14 => zcb z14.1 (some (z14.1, z14.2.1, (zmg [1] z14.2.2 s1))))))))))))) else ((Teller_refuse N s0 2).bind (fun z20 => zcb z20.1 (some (z20.1, z20.2, s1))))
def Teller_tellBeast (N : Nat) (s0 : zSt) (s1 : zSt) (s2 : zSt) : Option (Int32 × zSt × zSt) := Teller_tellBeast_b0 N s0 s1 s2
def Teller_tellStranger_b0 (N : Nat) (s0 : zSt) (s1 : zSt) (s2 : zSt) : Option (Int32 × zSt × zSt) :=
  if ((zI s1 3) - (zI s1 9)) < 2 then ((Teller_takeNewName N s0 11 (zB s1 4) s2 (zI s1 3)).bind (fun z2 => if z2.1 = 0 then (some (0, z2.2, s1)) else ((Teller_tellBell N z2.2 s1 s2 (zL z2.2 5) (-1)).bind (fun z5 => zcb z5.1 (some (z5.1, z5.2.1, z5.2.2)))))) else ((Teller_refuse N s0 2).bind (fun z8 => zcb z8.1 (some (z8.1, z8.2, s1))))
def Teller_tellStranger (N : Nat) (s0 : zSt) (s1 : zSt) (s2 : zSt) : Option (Int32 × zSt × zSt) := Teller_tellStranger_b0 N s0 s1 s2
def Valley_addEar_b0 (N : Nat) (s0 : zSt) (v1 : Int64) (v3 : Int32) : Option (zSt) :=
  zck (zI s0 12) 4 (zck (zI s0 12) 4 (some ((zpI (zsA (zsB s0 13 (vp_updL (zB s0 13) (Int32.toNatClampNeg (zI s0 12)) v1)) 14 (upd (zA s0 14) (Int32.toNatClampNeg (zI s0 12)) v3)) 12 ((zI s0 12) + 1)))))
def Valley_addEar (N : Nat) (s0 : zSt) (v1 : Int64) (v3 : Int32) : Option (zSt) := Valley_addEar_b0 N s0 v1 v3
def Teller_tellEar_b0 (N : Nat) (s0 : zSt) (s1 : zSt) (s2 : zSt) : Option (Int32 × zSt × zSt) :=
  if (zI s1 12) < 4 then ((Teller_takeNewName N s0 4 (zB s1 13) s2 (zI s1 12)).bind (fun z2 => if z2.1 = 0 then (some (0, z2.2, s1)) else ((Teller_takeWord N z2.2 s2 24948).bind (fun z5 => if z5.1 = 0 then (some (0, z5.2, s1)) else ((Teller_takeNumber N z5.2 s2 0 99).bind (fun z8 => if z8.1 = 0 then (some (0, z8.2, s1)) else ((Teller_take N z8.2 s2 4).bind (fun z11 => if z11.1 = 0 then (some (0, z11.2, s1)) else ((Valley_addEar N s1 (zL z2.2 5) (Int64.toInt32 (zL z8.2 5))).bind (fun z14 => some (1, z11.2, z14))))))))))) else ((Teller_refuse N s0 2).bind (fun z16 => zcb z16.1 (some (z16.1, z16.2, s1))))
def Teller_tellEar (N : Nat) (s0 : zSt) (s1 : zSt) (s2 : zSt) : Option (Int32 × zSt × zSt) := Teller_tellEar_b0 N s0 s1 s2
def Teller_takeBeast_b38 (N : Nat) (s0 : zSt) (s1 : zSt) (s2 : zSt) : Option (Int32 × zSt) :=
  (Teller_refuse N s0 5).bind (fun z1 => some ((-1), z1.2))
def Teller_takeBeast_b0 (N : Nat) (s0 : zSt) (s1 : zSt) (s2 : zSt) : Option (Int32 × zSt) :=
  (Teller_takeName N s0 s2).bind (fun z1 => if z1.1 = 0 then (some ((-1), z1.2)) else ((Teller_find N 11 (zB s1 4) (zL z1.2 5) (zI s1 3)).bind (fun z4 => if z4 = (-1) then (Teller_takeBeast_b38 N z1.2 s1 s2) else ((Valley_isBeast N s1 z4).bind (fun z7 => if z7 = 0 then (Teller_takeBeast_b38 N z1.2 s1 s2) else (some (z4, z1.2)))))))
def Teller_takeBeast (N : Nat) (s0 : zSt) (s1 : zSt) (s2 : zSt) : Option (Int32 × zSt) := Teller_takeBeast_b0 N s0 s1 s2
def Valley_addBeside_b34 (N : Nat) (s0 : zSt) : Option (zSt) :=
  some (s0)
def Valley_addBeside_b24 (N : Nat) (s0 : zSt) : Option (zSt) :=
  Valley_addBeside_b34 N (zpI s0 11 ((zI s0 11) + 1))
def Valley_addBeside_b0 (N : Nat) (s0 : zSt) (v1 : Int32) (v2 : Int32) : Option (zSt) :=
  zck v1 11 (zck v1 11 (zck v2 11 (zck v2 11 (Valley_addBeside_b24 N (zsA (zsA s0 10 (upd (zA s0 10) (Int32.toNatClampNeg v1) (((zA s0 10) (Int32.toNatClampNeg v1)) ||| ((1 : Int32) <<< (v2 &&& 31))))) 10 (upd (upd (zA s0 10) (Int32.toNatClampNeg v1) (((zA s0 10) (Int32.toNatClampNeg v1)) ||| ((1 : Int32) <<< (v2 &&& 31)))) (Int32.toNatClampNeg v2) (((upd (zA s0 10) (Int32.toNatClampNeg v1) (((zA s0 10) (Int32.toNatClampNeg v1)) ||| ((1 : Int32) <<< (v2 &&& 31)))) (Int32.toNatClampNeg v2)) ||| ((1 : Int32) <<< (v1 &&& 31)))))))))
def Valley_addBeside (N : Nat) (s0 : zSt) (v1 : Int32) (v2 : Int32) : Option (zSt) := Valley_addBeside_b0 N s0 v1 v2
def Teller_tellBeside_b60 (N : Nat) (s0 : zSt) (s1 : zSt) (s2 : zSt) : Option (Int32 × zSt × zSt) :=
  (Teller_refuse N s0 3).bind (fun z1 => zcb z1.1 (some (z1.1, z1.2, s1)))
def Teller_tellBeside_b0 (N : Nat) (s0 : zSt) (s1 : zSt) (s2 : zSt) : Option (Int32 × zSt × zSt) :=
  if (zI s1 11) < 20 then ((Teller_takeBeast N s0 s1 s2).bind (fun z2 => if z2.1 = (-1) then (some (0, z2.2, s1)) else ((Teller_takeBeast N z2.2 s1 s2).bind (fun z5 => if z5.1 = (-1) then (some (0, z5.2, s1)) else (if z2.1 = z5.1 then (Teller_tellBeside_b60 N z5.2 s1 s2) else (zck z2.1 11 (if ((((zA s1 10) (Int32.toNatClampNeg z2.1)) >>> (z5.1 &&& 31)) &&& 1) = 1 then (Teller_tellBeside_b60 N z5.2 s1 s2) else ((Teller_take N z5.2 s2 4).bind (fun z11 => if z11.1 = 0 then (some (0, z11.2, s1)) else ((Valley_addBeside N s1 z2.1 z5.1).bind (fun z14 => some (1, z11.2, (zmg [4] z14 s1))))))))))))) else ((Teller_refuse N s0 2).bind (fun z16 => zcb z16.1 (some (z16.1, z16.2, s1))))
def Teller_tellBeside (N : Nat) (s0 : zSt) (s1 : zSt) (s2 : zSt) : Option (Int32 × zSt × zSt) := Teller_tellBeside_b0 N s0 s1 s2
def Teller_tellLine_b0 (N : Nat) (s0 : zSt) (s1 : zSt) (s2 : zSt) : Option (Int32 × zSt × zSt) :=
  (Teller_take N s0 s2 2).bind (fun z1 => if z1.1 = 0 then (some (0, z1.2, s1)) else (if (lg_cmp (zL z1.2 5) 1751478884) = 0 then ((Teller_tellHerd N z1.2 s1 s2).bind (fun z24 => zcb z24.1 (some (z24.1, z24.2.1, (zmg [4,5,6,7,10,13,14] z24.2.2 s1))))) else (if (lg_cmp (zL z1.2 5) 422607680372) = 0 then ((Teller_tellBeast N z1.2 s1 s2).bind (fun z21 => zcb z21.1 (some (z21.1, z21.2.1, (zmg [13,14] z21.2.2 s1))))) else (if (lg_cmp (zL z1.2 5) 8319400174449812850) = 0 then ((Teller_tellStranger N z1.2 s1 s2).bind (fun z18 => zcb z18.1 (some (z18.1, z18.2.1, (zmg [1,13,14] z18.2.2 s1))))) else (if (lg_cmp (zL z1.2 5) 6644082) = 0 then ((Teller_tellEar N z1.2 s1 s2).bind (fun z15 => zcb z15.1 (some (z15.1, z15.2.1, (zmg [1,2,4,5,6,7,10] z15.2.2 s1))))) else (if (lg_cmp (zL z1.2 5) 108187867505765) = 0 then ((Teller_tellBeside N z1.2 s1 s2).bind (fun z12 => zcb z12.1 (some (z12.1, z12.2.1, (zmg [1,2,5,6,7,13,14] z12.2.2 s1))))) else ((Teller_refuse N z1.2 2).bind (fun z9 => zcb z9.1 (some (z9.1, z9.2, s1))))))))))
def Teller_tellLine (N : Nat) (s0 : zSt) (s1 : zSt) (s2 : zSt) : Option (Int32 × zSt × zSt) := Teller_tellLine_b0 N s0 s1 s2
def Teller_tell_b29 (N : Nat) (kh29 : zSt → zSt → zSt → Int32 → Option (Int32 × zSt × zSt × zSt)) (s0 : zSt) (s1 : zSt) (s2 : zSt) (f3 : Nat → Int32) (v3 : Int32) : Option (Int32 × zSt × zSt × zSt) :=
  if (zI s2 0) ≤ v3 then (some (1, s0, s1, s2)) else ((Teller_isAtEnd N s0 s2).bind (fun z2 => if z2 = 0 then ((Teller_tellLine N s0 s1 s2).bind (fun z5 => if z5.1 = 0 then (some (0, z5.2.1, z5.2.2, s2)) else (kh29 z5.2.1 z5.2.2 s2 (v3 + 1)))) else (some (1, s0, s1, s2))))
def Teller_tell_h29 (N : Nat) (f3 : (Nat → Int32)) : Nat → zSt → zSt → zSt → Int32 → Option (Int32 × zSt × zSt × zSt)
  | 0 => fun _ _ _ _ => none
  | n + 1 => fun s0 s1 s2 v3 => Teller_tell_b29 N (Teller_tell_h29 N f3 n) s0 s1 s2 f3 v3
theorem Teller_tell_h29_s (N : Nat) (f3 : (Nat → Int32)) (n : Nat) (s0 : zSt) (s1 : zSt) (s2 : zSt) (v3 : Int32) : Teller_tell_h29 N f3 (n + 1) s0 s1 s2 v3 = Teller_tell_b29 N (Teller_tell_h29 N f3 n) s0 s1 s2 f3 v3 := rfl
def Teller_tell_b0 (N : Nat) (s0 : zSt) (s1 : zSt) (s2 : zSt) (f3 : Nat → Int32) (v1 : Int32) : Option (Int32 × zSt × zSt × zSt) :=
  (Valley_clear N s1).bind (fun z1 => (Reader_read N s2 f3 v1).bind (fun z3 => Teller_tell_h29 N f3 N (zpI (zpI (zpI s0 0 0) 1 (-1)) 3 0) (zmg [1,2,4,5,6,7,10,13,14] z1 s1) z3 0))
def Teller_tell (N : Nat) (s0 : zSt) (s1 : zSt) (s2 : zSt) (f3 : Nat → Int32) (v1 : Int32) : Option (Int32 × zSt × zSt × zSt) := Teller_tell_b0 N s0 s1 s2 f3 v1
def Valley_hasBell_b0 (N : Nat) (s0 : zSt) (v1 : Int32) : Option (Int32) :=
  (CH_within N v1 0 ((zI s0 3) - 1)).bind (fun z1 => zcb z1 (some (z1)))
def Valley_hasBell (N : Nat) (s0 : zSt) (v1 : Int32) : Option (Int32) := Valley_hasBell_b0 N s0 v1
def Valley_hasEar_b0 (N : Nat) (s0 : zSt) (v1 : Int32) : Option (Int32) :=
  (CH_within N v1 0 ((zI s0 12) - 1)).bind (fun z1 => zcb z1 (some (z1)))
def Valley_hasEar (N : Nat) (s0 : zSt) (v1 : Int32) : Option (Int32) := Valley_hasEar_b0 N s0 v1
def Valley_hasBeast_b40 (N : Nat) (kh2 : Int32 → Option (Int32)) (s0 : zSt) (v1 : Int32) (v2 : Int32) (v3 : Int32) : Option (Int32) :=
  kh2 (v3 + 1)
def Valley_hasBeast_b2 (N : Nat) (kh2 : Int32 → Option (Int32)) (s0 : zSt) (v1 : Int32) (v2 : Int32) (v3 : Int32) : Option (Int32) :=
  if (zI s0 3) ≤ v3 then (some (0)) else ((Valley_isBeast N s0 v3).bind (fun z2 => if z2 = 0 then (Valley_hasBeast_b40 N kh2 s0 v1 v2 v3) else (zck v3 11 (if ((zA s0 5) (Int32.toNatClampNeg v3)) = v1 then (zck v3 11 (if ((zA s0 6) (Int32.toNatClampNeg v3)) = v2 then (some (1)) else (Valley_hasBeast_b40 N kh2 s0 v1 v2 v3))) else (Valley_hasBeast_b40 N kh2 s0 v1 v2 v3)))))
def Valley_hasBeast_h2 (N : Nat) (s0 : zSt) (v1 : Int32) (v2 : Int32) : Nat → Int32 → Option (Int32)
  | 0 => fun _ => none
  | n + 1 => fun v3 => Valley_hasBeast_b2 N (Valley_hasBeast_h2 N s0 v1 v2 n) s0 v1 v2 v3
theorem Valley_hasBeast_h2_s (N : Nat) (s0 : zSt) (v1 : Int32) (v2 : Int32) (n : Nat) (v3 : Int32) : Valley_hasBeast_h2 N s0 v1 v2 (n + 1) v3 = Valley_hasBeast_b2 N (Valley_hasBeast_h2 N s0 v1 v2 n) s0 v1 v2 v3 := rfl
def Valley_hasBeast_b0 (N : Nat) (s0 : zSt) (v1 : Int32) (v2 : Int32) : Option (Int32) :=
  Valley_hasBeast_h2 N s0 v1 v2 N 0
def Valley_hasBeast (N : Nat) (s0 : zSt) (v1 : Int32) (v2 : Int32) : Option (Int32) := Valley_hasBeast_b0 N s0 v1 v2
def Valley_eachIsKnown_b75 (N : Nat) (kh2 : Int32 → Option (Int32)) (kh12 : Int32 → Option (Int32)) (s0 : zSt) (v1 : Int32) (v2 : Int32) : Option (Int32) :=
  kh12 (v2 + 1)
def Valley_eachIsKnown_b38 (N : Nat) (kh2 : Int32 → Option (Int32)) (kh12 : Int32 → Option (Int32)) (s0 : zSt) (v1 : Int32) (v2 : Int32) (t0 : Int32) : Option (Int32) :=
  if t0 = 0 then (Valley_eachIsKnown_b75 N kh2 kh12 s0 v1 v2) else (zck v1 11 (zck v2 11 (if ((zA s0 5) (Int32.toNatClampNeg v1)) = ((zA s0 5) (Int32.toNatClampNeg v2)) then (zck v1 11 (zck v2 11 (if ((zA s0 6) (Int32.toNatClampNeg v1)) = ((zA s0 6) (Int32.toNatClampNeg v2)) then (some (0)) else (Valley_eachIsKnown_b75 N kh2 kh12 s0 v1 v2)))) else (Valley_eachIsKnown_b75 N kh2 kh12 s0 v1 v2))))
def Valley_eachIsKnown_b37 (N : Nat) (kh2 : Int32 → Option (Int32)) (kh12 : Int32 → Option (Int32)) (s0 : zSt) (v1 : Int32) (v2 : Int32) : Option (Int32) :=
  Valley_eachIsKnown_b38 N kh2 kh12 s0 v1 v2 0
def Valley_eachIsKnown_b12 (N : Nat) (kh2 : Int32 → Option (Int32)) (kh12 : Int32 → Option (Int32)) (s0 : zSt) (v1 : Int32) (v2 : Int32) : Option (Int32) :=
  if v1 ≤ v2 then (kh2 (v1 + 1)) else ((Valley_isBeast N s0 v1).bind (fun z2 => if z2 = 0 then (Valley_eachIsKnown_b37 N kh2 kh12 s0 v1 v2) else ((Valley_isBeast N s0 v2).bind (fun z5 => if z5 = 0 then (Valley_eachIsKnown_b37 N kh2 kh12 s0 v1 v2) else (Valley_eachIsKnown_b38 N kh2 kh12 s0 v1 v2 1)))))
def Valley_eachIsKnown_h12 (N : Nat) (kh2 : Int32 → Option (Int32)) (s0 : zSt) (v1 : Int32) : Nat → Int32 → Option (Int32)
  | 0 => fun _ => none
  | n + 1 => fun v2 => Valley_eachIsKnown_b12 N kh2 (Valley_eachIsKnown_h12 N kh2 s0 v1 n) s0 v1 v2
theorem Valley_eachIsKnown_h12_s (N : Nat) (kh2 : Int32 → Option (Int32)) (s0 : zSt) (v1 : Int32) (n : Nat) (v2 : Int32) : Valley_eachIsKnown_h12 N kh2 s0 v1 (n + 1) v2 = Valley_eachIsKnown_b12 N kh2 (Valley_eachIsKnown_h12 N kh2 s0 v1 n) s0 v1 v2 := rfl
def Valley_eachIsKnown_b2 (N : Nat) (kh2 : Int32 → Option (Int32)) (s0 : zSt) (v1 : Int32) : Option (Int32) :=
  if (zI s0 3) ≤ v1 then (some (1)) else (Valley_eachIsKnown_h12 N kh2 s0 v1 N 0)
def Valley_eachIsKnown_h2 (N : Nat) (s0 : zSt) : Nat → Int32 → Option (Int32)
  | 0 => fun _ => none
  | n + 1 => fun v1 => Valley_eachIsKnown_b2 N (Valley_eachIsKnown_h2 N s0 n) s0 v1
theorem Valley_eachIsKnown_h2_s (N : Nat) (s0 : zSt) (n : Nat) (v1 : Int32) : Valley_eachIsKnown_h2 N s0 (n + 1) v1 = Valley_eachIsKnown_b2 N (Valley_eachIsKnown_h2 N s0 n) s0 v1 := rfl
def Valley_eachIsKnown_b0 (N : Nat) (s0 : zSt) : Option (Int32) :=
  Valley_eachIsKnown_h2 N s0 N 0
def Valley_eachIsKnown (N : Nat) (s0 : zSt) : Option (Int32) := Valley_eachIsKnown_b0 N s0
def Valley_withThoseBeside_b30 (N : Nat) (kh4 : Int32 → Int32 → Option (Int32)) (s0 : zSt) (v1 : Int32) (v2 : Int32) (v3 : Int32) : Option (Int32) :=
  kh4 v2 (v3 + 1)
def Valley_withThoseBeside_b4 (N : Nat) (kh4 : Int32 → Int32 → Option (Int32)) (s0 : zSt) (v1 : Int32) (v2 : Int32) (v3 : Int32) : Option (Int32) :=
  if (zI s0 3) ≤ v3 then (some (v2)) else (if ((v1 >>> (v3 &&& 31)) &&& 1) = 1 then (zck v3 11 (Valley_withThoseBeside_b30 N kh4 s0 v1 (v2 ||| ((zA s0 10) (Int32.toNatClampNeg v3))) v3)) else (Valley_withThoseBeside_b30 N kh4 s0 v1 v2 v3))
def Valley_withThoseBeside_h4 (N : Nat) (s0 : zSt) (v1 : Int32) : Nat → Int32 → Int32 → Option (Int32)
  | 0 => fun _ _ => none
  | n + 1 => fun v2 v3 => Valley_withThoseBeside_b4 N (Valley_withThoseBeside_h4 N s0 v1 n) s0 v1 v2 v3
theorem Valley_withThoseBeside_h4_s (N : Nat) (s0 : zSt) (v1 : Int32) (n : Nat) (v2 : Int32) (v3 : Int32) : Valley_withThoseBeside_h4 N s0 v1 (n + 1) v2 v3 = Valley_withThoseBeside_b4 N (Valley_withThoseBeside_h4 N s0 v1 n) s0 v1 v2 v3 := rfl
def Valley_withThoseBeside_b0 (N : Nat) (s0 : zSt) (v1 : Int32) : Option (Int32) :=
  Valley_withThoseBeside_h4 N s0 v1 N v1 0
def Valley_withThoseBeside (N : Nat) (s0 : zSt) (v1 : Int32) : Option (Int32) := Valley_withThoseBeside_b0 N s0 v1
def Valley_farFrom_b54 (N : Nat) (kh6 : Int32 → Int32 → Option (Int32)) (s0 : zSt) (v1 : Int32) (v2 : Int32) (v3 : Int32) (v4 : Int32) : Option (Int32) :=
  kh6 v3 (v4 + 1)
def Valley_farFrom_b6 (N : Nat) (kh6 : Int32 → Int32 → Option (Int32)) (s0 : zSt) (v1 : Int32) (v2 : Int32) (v3 : Int32) (v4 : Int32) : Option (Int32) :=
  if (zI s0 3) ≤ v4 then (some (v3)) else (if ((v2 >>> (v4 &&& 31)) &&& 1) = 1 then (zck v4 11 ((Math_abs N (v1 - ((zA s0 5) (Int32.toNatClampNeg v4)))).bind (fun z4 => (Math_min N z4 (12 - z4)).bind (fun z6 => (Math_min N v3 z6).bind (fun z8 => Valley_farFrom_b54 N kh6 s0 v1 v2 z8 v4))))) else (Valley_farFrom_b54 N kh6 s0 v1 v2 v3 v4))
def Valley_farFrom_h6 (N : Nat) (s0 : zSt) (v1 : Int32) (v2 : Int32) : Nat → Int32 → Int32 → Option (Int32)
  | 0 => fun _ _ => none
  | n + 1 => fun v3 v4 => Valley_farFrom_b6 N (Valley_farFrom_h6 N s0 v1 v2 n) s0 v1 v2 v3 v4
theorem Valley_farFrom_h6_s (N : Nat) (s0 : zSt) (v1 : Int32) (v2 : Int32) (n : Nat) (v3 : Int32) (v4 : Int32) : Valley_farFrom_h6 N s0 v1 v2 (n + 1) v3 v4 = Valley_farFrom_b6 N (Valley_farFrom_h6 N s0 v1 v2 n) s0 v1 v2 v3 v4 := rfl
def Valley_farFrom_b0 (N : Nat) (s0 : zSt) (v1 : Int32) (v2 : Int32) : Option (Int32) :=
  Valley_farFrom_h6 N s0 v1 v2 N 12 0
def Valley_farFrom (N : Nat) (s0 : zSt) (v1 : Int32) (v2 : Int32) : Option (Int32) := Valley_farFrom_b0 N s0 v1 v2
def CH_tapeFour_b3 (N : Nat) (kh3 : zSt → Int32 → Option (zSt)) (s0 : zSt) (v1 : Int32) (v2 : Int32) : Option (zSt) :=
  if v2 < 0 then (some (s0)) else (if 1500 ≤ (zI s0 1) then (some (s0)) else (zck (zI s0 1) 1500 (kh3 (zpI (zsA s0 0 (upd (zA s0 0) (Int32.toNatClampNeg (zI s0 1)) (vp_nar .byte (Int8.toInt32 (Int32.toInt8 (v1 >>> (v2 &&& 31))))))) 1 ((zI s0 1) + 1)) (v2 + (-8)))))
def CH_tapeFour_h3 (N : Nat) (v1 : Int32) : Nat → zSt → Int32 → Option (zSt)
  | 0 => fun _ _ => none
  | n + 1 => fun s0 v2 => CH_tapeFour_b3 N (CH_tapeFour_h3 N v1 n) s0 v1 v2
theorem CH_tapeFour_h3_s (N : Nat) (v1 : Int32) (n : Nat) (s0 : zSt) (v2 : Int32) : CH_tapeFour_h3 N v1 (n + 1) s0 v2 = CH_tapeFour_b3 N (CH_tapeFour_h3 N v1 n) s0 v1 v2 := rfl
def CH_tapeFour_b0 (N : Nat) (s0 : zSt) (v1 : Int32) : Option (zSt) :=
  CH_tapeFour_h3 N v1 N s0 24
def CH_tapeFour (N : Nat) (s0 : zSt) (v1 : Int32) : Option (zSt) := CH_tapeFour_b0 N s0 v1
def CH_feed_b0 (N : Nat) (s0 : zSt) (v1 : Int32) (v2 : Int32) (v3 : Int32) (v4 : Int32) (v5 : Int32) : Option (Int32 × zSt) :=
  if (zI s0 1) ≤ 1480 then ((CH_tapeFour N s0 v1).bind (fun z2 => (CH_tapeFour N z2 v2).bind (fun z4 => (CH_tapeFour N z4 v3).bind (fun z6 => (CH_tapeFour N z6 v4).bind (fun z8 => (CH_tapeFour N z8 v5).bind (fun z10 => some (zI z10 1, z10))))))) else (some ((-1), s0))
def CH_feed (N : Nat) (s0 : zSt) (v1 : Int32) (v2 : Int32) (v3 : Int32) (v4 : Int32) (v5 : Int32) : Option (Int32 × zSt) := CH_feed_b0 N s0 v1 v2 v3 v4 v5
def CH_end_b0 (N : Nat) (s0 : zSt) (v1 : Int32) : Option (Int32 × zSt) :=
  (CH_within N v1 0 (zI s0 1)).bind (fun z1 => if z1 = 0 then (some ((-1), s0)) else (some (v1, (zpI s0 1 v1))))
def CH_end (N : Nat) (s0 : zSt) (v1 : Int32) : Option (Int32 × zSt) := CH_end_b0 N s0 v1
def CH_valley_b0 (N : Nat) (s0 : zSt) (s1 : zSt) (s2 : zSt) (s3 : zSt) (f4 : Nat → Int32) (s5 : zSt) (s6 : zSt) (s7 : zSt) : Option (Int32 × zSt × zSt × zSt × zSt × zSt × zSt × zSt × Bool) :=
  (Teller_tell N s1 s2 s3 f4 (zI s0 1)).bind (fun z1 => if z1.1 = 0 then (some ((-1), (zpI s0 1 0), z1.2.1, z1.2.2.1, z1.2.2.2, s5, s6, s7, false)) else ((Earnest_begin N s5 z1.2.2.1).bind (fun z4 => some (zI z1.2.2.1 3, (zpI (zpI (zpI s0 1 0) 11 0) 7 0), z1.2.1, z1.2.2.1, z1.2.2.2, z4, (zpI s6 0 0), (zpI s7 0 0), true))))
def CH_valley (N : Nat) (s0 : zSt) (s1 : zSt) (s2 : zSt) (s3 : zSt) (f4 : Nat → Int32) (s5 : zSt) (s6 : zSt) (s7 : zSt) : Option (Int32 × zSt × zSt × zSt × zSt × zSt × zSt × zSt × Bool) := CH_valley_b0 N s0 s1 s2 s3 f4 s5 s6 s7
def CH_fault_b0 (N : Nat) (s0 : zSt) (s1 : zSt) (v1 : Int32) : Option (Int32) :=
  if v1 = 0 then (some (zI s1 0)) else (if v1 = 1 then (some (zI s1 1)) else (some ((-1))))
def CH_fault (N : Nat) (s0 : zSt) (s1 : zSt) (v1 : Int32) : Option (Int32) := CH_fault_b0 N s0 s1 v1
def CH_bell_b0 (N : Nat) (s0 : zSt) (s1 : zSt) (s2 : zSt) (v1 : Int32) (v2 : Int32) : Option (Int32) :=
  (Valley_hasBell N s1 v1).bind (fun z1 => if z1 = 0 then (some ((-2))) else (if v2 = 0 then ((Earnest_toneOf N s2 s1 v1).bind (fun z5 => some (z5))) else (if v2 = 1 then (zck v1 11 (some ((zA s1 6) (Int32.toNatClampNeg v1)))) else (if v2 = 2 then (zck v1 11 (some ((zA s1 7) (Int32.toNatClampNeg v1)))) else (if v2 = 3 then (zck v1 11 (some ((zA s2 5) (Int32.toNatClampNeg v1)))) else (if v2 = 4 then (some (((zI s2 0) >>> (v1 &&& 31)) &&& 1)) else (if v2 = 5 then (some (((zI s2 1) >>> (v1 &&& 31)) &&& 1)) else (some ((-2))))))))))
def CH_bell (N : Nat) (s0 : zSt) (s1 : zSt) (s2 : zSt) (v1 : Int32) (v2 : Int32) : Option (Int32) := CH_bell_b0 N s0 s1 s2 v1 v2
def CH_hear_b0 (N : Nat) (s0 : zSt) (s1 : zSt) (s2 : zSt) (v1 : Int32) (v2 : Int32) : Option (Int32) :=
  (Valley_hasEar N s1 v1).bind (fun z1 => if z1 = 0 then (some ((-1))) else ((CH_within N v2 0 11).bind (fun z4 => if z4 = 0 then (some ((-1))) else ((Earnest_loudness N s2 s1 v1 v2).bind (fun z7 => some (z7))))))
def CH_hear (N : Nat) (s0 : zSt) (s1 : zSt) (s2 : zSt) (v1 : Int32) (v2 : Int32) : Option (Int32) := CH_hear_b0 N s0 s1 s2 v1 v2
def CH_chord_b45 (N : Nat) (kh17 : Int32 → Int32 → Option (Int32)) (s0 : zSt) (s1 : zSt) (s2 : zSt) (v1 : Int32) (v2 : Int32) (v3 : Int32) : Option (Int32) :=
  kh17 v2 (v3 + 1)
def CH_chord_b17 (N : Nat) (kh17 : Int32 → Int32 → Option (Int32)) (s0 : zSt) (s1 : zSt) (s2 : zSt) (v1 : Int32) (v2 : Int32) (v3 : Int32) : Option (Int32) :=
  if 12 ≤ v3 then (some (v2)) else ((Earnest_loudness N s2 s1 v1 v3).bind (fun z2 => if z2 ≤ 0 then (CH_chord_b45 N kh17 s0 s1 s2 v1 v2 v3) else (CH_chord_b45 N kh17 s0 s1 s2 v1 (v2 ||| ((1 : Int32) <<< (v3 &&& 31))) v3)))
def CH_chord_h17 (N : Nat) (s0 : zSt) (s1 : zSt) (s2 : zSt) (v1 : Int32) : Nat → Int32 → Int32 → Option (Int32)
  | 0 => fun _ _ => none
  | n + 1 => fun v2 v3 => CH_chord_b17 N (CH_chord_h17 N s0 s1 s2 v1 n) s0 s1 s2 v1 v2 v3
theorem CH_chord_h17_s (N : Nat) (s0 : zSt) (s1 : zSt) (s2 : zSt) (v1 : Int32) (n : Nat) (v2 : Int32) (v3 : Int32) : CH_chord_h17 N s0 s1 s2 v1 (n + 1) v2 v3 = CH_chord_b17 N (CH_chord_h17 N s0 s1 s2 v1 n) s0 s1 s2 v1 v2 v3 := rfl
def CH_chord_b0 (N : Nat) (s0 : zSt) (s1 : zSt) (s2 : zSt) (v1 : Int32) : Option (Int32) :=
  (Valley_hasEar N s1 v1).bind (fun z1 => if z1 = 0 then (some ((-1))) else (CH_chord_h17 N s0 s1 s2 v1 N 0 0))
def CH_chord (N : Nat) (s0 : zSt) (s1 : zSt) (s2 : zSt) (v1 : Int32) : Option (Int32) := CH_chord_b0 N s0 s1 s2 v1
def CH_comes_b0 (N : Nat) (s0 : zSt) (s1 : zSt) (s2 : zSt) (v1 : Int32) (v2 : Int32) : Option (Int32 × zSt) :=
  (Valley_hasBell N s1 v1).bind (fun z1 => if z1 = 0 then (some (0, s2)) else ((Earnest_isThere N s2 v1).bind (fun z4 => if z4 = v2 then (some (0, s2)) else (some (1, (zpI (zpI s2 0 ((zI s2 0) ^^^ ((1 : Int32) <<< (v1 &&& 31)))) 1 ((zI s2 1) &&& ((zI s2 0) ^^^ ((1 : Int32) <<< (v1 &&& 31))))))))))
def CH_comes (N : Nat) (s0 : zSt) (s1 : zSt) (s2 : zSt) (v1 : Int32) (v2 : Int32) : Option (Int32 × zSt) := CH_comes_b0 N s0 s1 s2 v1 v2
def CH_stand_b0 (N : Nat) (s0 : zSt) (s1 : zSt) (s2 : zSt) (v1 : Int32) (v2 : Int32) : Option (Int32 × zSt) :=
  (Valley_hasBell N s1 v1).bind (fun z1 => if z1 = 0 then (some (0, s2)) else ((Earnest_isThere N s2 v1).bind (fun z4 => if z4 = 0 then (some (0, s2)) else ((Earnest_isStanding N s2 v1).bind (fun z7 => if z7 = v2 then (some (0, s2)) else (some (1, (zpI s2 1 ((zI s2 1) ^^^ ((1 : Int32) <<< (v1 &&& 31)))))))))))
def CH_stand (N : Nat) (s0 : zSt) (s1 : zSt) (s2 : zSt) (v1 : Int32) (v2 : Int32) : Option (Int32 × zSt) := CH_stand_b0 N s0 s1 s2 v1 v2
def CH_isPlace_b0 (N : Nat) (v0 : Int32) : Option (Int32) :=
  (CH_within N v0 0 99).bind (fun z1 => zcb z1 (some (z1)))
def CH_isPlace (N : Nat) (v0 : Int32) : Option (Int32) := CH_isPlace_b0 N v0
def CH_isWind_b0 (N : Nat) (v0 : Int32) : Option (Int32) :=
  (CH_within N v0 0 20).bind (fun z1 => zcb z1 (some (z1)))
def CH_isWind (N : Nat) (v0 : Int32) : Option (Int32) := CH_isWind_b0 N v0
def CH_walk_b0 (N : Nat) (s0 : zSt) (s1 : zSt) (v1 : Int32) (v2 : Int32) : Option (Int32 × zSt) :=
  (CH_isPlace N v1).bind (fun z1 => if z1 = 0 then (some ((-1), s1)) else ((CH_isWind N v2).bind (fun z4 => if z4 = 0 then (some ((-1), s1)) else (some (zI s1 2, (zpI (zpI s1 2 v1) 3 v2))))))
def CH_walk (N : Nat) (s0 : zSt) (s1 : zSt) (v1 : Int32) (v2 : Int32) : Option (Int32 × zSt) := CH_walk_b0 N s0 s1 v1 v2
def CH_crack_b0 (N : Nat) (s0 : zSt) (s1 : zSt) (s2 : zSt) (v1 : Int32) (v2 : Int32) : Option (Int32 × zSt) :=
  (Valley_hasBell N s1 v1).bind (fun z1 => if z1 = 0 then (some ((-1), s2)) else ((CH_within N v2 0 2).bind (fun z4 => if z4 = 0 then (some ((-1), s2)) else (zck v1 11 (zck v1 11 (some ((zA s2 5) (Int32.toNatClampNeg v1), (zsA s2 5 (upd (zA s2 5) (Int32.toNatClampNeg v1) v2)))))))))
def CH_crack (N : Nat) (s0 : zSt) (s1 : zSt) (s2 : zSt) (v1 : Int32) (v2 : Int32) : Option (Int32 × zSt) := CH_crack_b0 N s0 s1 s2 v1 v2
def CH_years_b0 (N : Nat) (s0 : zSt) (s1 : zSt) (v1 : Int32) : Option (Int32 × zSt) :=
  (CH_within N v1 0 20).bind (fun z1 => if z1 = 0 then (some ((-1), s1)) else (if ((zI s1 4) + v1) ≤ 200 then (some (((zI s1 4) + v1), (zpI s1 4 ((zI s1 4) + v1)))) else (some ((-1), s1))))
def CH_years (N : Nat) (s0 : zSt) (s1 : zSt) (v1 : Int32) : Option (Int32 × zSt) := CH_years_b0 N s0 s1 v1
def CH_isQuarter_b0 (N : Nat) (v0 : Int32) : Option (Int32) :=
  (CH_within N v0 0 95).bind (fun z1 => zcb z1 (some (z1)))
def CH_isQuarter (N : Nat) (v0 : Int32) : Option (Int32) := CH_isQuarter_b0 N v0
def CH_sound_b0 (N : Nat) (s0 : zSt) (s1 : zSt) (s2 : zSt) (v1 : Int32) (v2 : Int32) (v3 : Int32) (v4 : Int32) (v5 : Int32) : Option (Int32 × zSt) :=
  (CH_isQuarter N v1).bind (fun z1 => if z1 = 0 then (some ((-1), s2)) else ((Valley_hasEar N s1 v2).bind (fun z4 => if z4 = 0 then (some ((-1), s2)) else ((CH_within N v3 0 11).bind (fun z7 => if z7 = 0 then (some ((-1), s2)) else ((CH_within N v4 0 999).bind (fun z10 => if z10 = 0 then (some ((-1), s2)) else ((CH_within N v5 v4 999).bind (fun z13 => if z13 = 0 then (some ((-1), s2)) else ((Entries_add N s2 v1 v2 v3 v4 v5 (zI s0 9)).bind (fun z16 => some (z16.1, z16.2))))))))))))
def CH_sound (N : Nat) (s0 : zSt) (s1 : zSt) (s2 : zSt) (v1 : Int32) (v2 : Int32) (v3 : Int32) (v4 : Int32) (v5 : Int32) : Option (Int32 × zSt) := CH_sound_b0 N s0 s1 s2 v1 v2 v3 v4 v5
def CH_evening_b0 (N : Nat) (s0 : zSt) (s1 : zSt) (v1 : Int32) (v2 : Int32) : Option (Int32 × zSt) :=
  (CH_within N v1 0 20).bind (fun z1 => if z1 = 0 then (some ((-1), s1)) else ((CH_within N v2 0 4095).bind (fun z4 => if z4 = 0 then (some ((-1), s1)) else ((Entries_add N s1 v1 (-1) v2 0 0 (zI s0 9)).bind (fun z7 => some (z7.1, z7.2))))))
def CH_evening (N : Nat) (s0 : zSt) (s1 : zSt) (v1 : Int32) (v2 : Int32) : Option (Int32 × zSt) := CH_evening_b0 N s0 s1 v1 v2
def CH_note_b0 (N : Nat) (s0 : zSt) (s1 : zSt) (s2 : zSt) (s3 : zSt) (v1 : Int32) (v2 : Int32) (v3 : Int32) (v4 : Int32) : Option (Int32 × zSt) :=
  (CH_hear N s0 s1 s2 v2 v3).bind (fun z1 => if z1 = (-1) then (some ((-1), s3)) else ((CH_within N v4 0 99).bind (fun z4 => if z4 = 0 then (some ((-1), s3)) else ((Math_max N 0 (z1 - v4)).bind (fun z7 => (CH_sound N s0 s1 s3 v1 v2 v3 z7 (z1 + v4)).bind (fun z9 => some (z9.1, z9.2)))))))
def CH_note (N : Nat) (s0 : zSt) (s1 : zSt) (s2 : zSt) (s3 : zSt) (v1 : Int32) (v2 : Int32) (v3 : Int32) (v4 : Int32) : Option (Int32 × zSt) := CH_note_b0 N s0 s1 s2 s3 v1 v2 v3 v4
def CH_untell_b0 (N : Nat) (s0 : zSt) (s1 : zSt) (v1 : Int32) : Option (Int32 × zSt) :=
  (CH_within N v1 0 ((zI s1 0) - 1)).bind (fun z1 => if z1 = 0 then (some (0, s1)) else (zck v1 40 (if ((zA s1 7) (Int32.toNatClampNeg v1)) = (-1) then (zck v1 40 (some (1, (zsA s1 7 (upd (zA s1 7) (Int32.toNatClampNeg v1) (zI s0 9)))))) else (some (0, s1)))))
def CH_untell (N : Nat) (s0 : zSt) (s1 : zSt) (v1 : Int32) : Option (Int32 × zSt) := CH_untell_b0 N s0 s1 v1
def CH_later_b0 (N : Nat) (s0 : zSt) (v1 : Int32) : Option (Int32 × zSt) :=
  (CH_within N v1 0 1000).bind (fun z1 => if z1 = 0 then (some ((-1), s0)) else (if ((zI s0 9) + v1) ≤ 100000 then (some (((zI s0 9) + v1), (zpI s0 9 ((zI s0 9) + v1)))) else (some ((-1), s0))))
def CH_later (N : Nat) (s0 : zSt) (v1 : Int32) : Option (Int32 × zSt) := CH_later_b0 N s0 v1
def CH_sets_b0 (N : Nat) (s0 : zSt) (s1 : zSt) (s2 : zSt) (s3 : zSt) (s4 : zSt) (v1 : Int32) (v2 : Int32) (v3 : Int32) (v4 : Int32) : Option (Int32 × zSt × zSt) :=
  (CH_isQuarter N v1).bind (fun z1 => if z1 = 0 then (some ((-2), s1, s3)) else ((CH_isWind N v2).bind (fun z4 => if z4 = 0 then (some ((-2), s1, s3)) else ((CH_within N v3 0 5).bind (fun z7 => if z7 = 0 then (some ((-2), s1, s3)) else ((Bounds_gather N s1 s2 v1 v4).bind (fun z10 => (Sets_seek N s3 s4 z10 v2).bind (fun z12 => if v3 = 0 then (some (zI z12 0, z10, z12)) else (if v3 = 1 then (some (zI z12 1, z10, z12)) else (if v3 = 2 then (some (zI z12 2, z10, z12)) else (if v3 = 3 then (some (zI z12 3, z10, z12)) else (if v3 = 4 then (some (zI z12 4, z10, z12)) else (some (zI z12 5, z10, z12))))))))))))))
def CH_sets (N : Nat) (s0 : zSt) (s1 : zSt) (s2 : zSt) (s3 : zSt) (s4 : zSt) (v1 : Int32) (v2 : Int32) (v3 : Int32) (v4 : Int32) : Option (Int32 × zSt × zSt) := CH_sets_b0 N s0 s1 s2 s3 s4 v1 v2 v3 v4
def CH_spring_b0 (N : Nat) (s0 : zSt) (s1 : zSt) (s2 : zSt) (v1 : Int32) (v2 : Int32) (v3 : Int32) (v4 : Int32) (v5 : Int32) : Option (Int32 × zSt) :=
  (Valley_hasEar N s1 v1).bind (fun z1 => if z1 = 0 then (some (0, s2)) else ((Valley_hasEar N s1 v3).bind (fun z4 => if z4 = 0 then (some (0, s2)) else (if v1 = v3 then (some (0, s2)) else ((CH_isPlace N v2).bind (fun z8 => if z8 = 0 then (some (0, s2)) else ((CH_isPlace N v4).bind (fun z11 => if z11 = 0 then (some (0, s2)) else ((CH_isQuarter N v5).bind (fun z14 => if z14 = 0 then (some (0, s2)) else (some (1, (zpI (zpI (zpI (zpI (zpI (zpI s2 0 1) 1 v1) 2 v2) 3 v3) 4 v4) 5 v5)))))))))))))
def CH_spring (N : Nat) (s0 : zSt) (s1 : zSt) (s2 : zSt) (v1 : Int32) (v2 : Int32) (v3 : Int32) (v4 : Int32) (v5 : Int32) : Option (Int32 × zSt) := CH_spring_b0 N s0 s1 s2 v1 v2 v3 v4 v5
def CH_parted_b0 (N : Nat) (s0 : zSt) (s1 : zSt) (s2 : zSt) (s3 : zSt) (s4 : zSt) (v1 : Int32) (v2 : Int32) (v3 : Int32) : Option (Int32 × zSt × zSt) :=
  if (zI s1 0) = 0 then (some ((-2), s1, s2)) else ((CH_isWind N v1).bind (fun z2 => if z2 = 0 then (some ((-2), s1, s2)) else ((CH_within N v2 0 4).bind (fun z5 => if z5 = 0 then (some ((-2), s1, s2)) else ((Bounds_gather N s2 s3 (zI s1 5) v3).bind (fun z8 => (Parting_seek N s1 s4 z8 v1).bind (fun z10 => if v2 = 0 then (some (zI z10 6, z10, z8)) else (if v2 = 1 then (some (zI z10 7, z10, z8)) else (if v2 = 2 then (some (zI z10 8, z10, z8)) else (if v2 = 3 then (some (zI z10 9, z10, z8)) else (some (zI z10 10, z10, z8))))))))))))
def CH_parted (N : Nat) (s0 : zSt) (s1 : zSt) (s2 : zSt) (s3 : zSt) (s4 : zSt) (v1 : Int32) (v2 : Int32) (v3 : Int32) : Option (Int32 × zSt × zSt) := CH_parted_b0 N s0 s1 s2 s3 s4 v1 v2 v3
def CH_isSoWith_b0 (N : Nat) (s0 : zSt) (s1 : zSt) (s2 : zSt) (v1 : Int32) (v2 : Int32) (v3 : Int32) (v4 : Int32) : Option (Int32) :=
  zck v2 40 (zck v2 40 ((Valley_loudness N s2 v1 ((zA s1 3) (Int32.toNatClampNeg v2)) ((zA s1 2) (Int32.toNatClampNeg v2)) v3 v4).bind (fun z3 => zck v2 40 (zck v2 40 ((CH_within N z3 ((zA s1 4) (Int32.toNatClampNeg v2)) ((zA s1 5) (Int32.toNatClampNeg v2))).bind (fun z7 => zcb z7 (some (z7))))))))
def CH_isSoWith (N : Nat) (s0 : zSt) (s1 : zSt) (s2 : zSt) (v1 : Int32) (v2 : Int32) (v3 : Int32) (v4 : Int32) : Option (Int32) := CH_isSoWith_b0 N s0 s1 s2 v1 v2 v3 v4
def CH_came_b178 (N : Nat) (kh64 : Int32 → Int32 → Int32 → Option (Int32)) (s0 : zSt) (s1 : zSt) (s2 : zSt) (v1 : Int32) (v2 : Int32) (v3 : Int32) (v4 : Int32) (v5 : Int32) (v6 : Int32) (v7 : Int32) (v8 : Int32) : Option (Int32) :=
  kh64 v6 v7 (v8 + 1)
def CH_came_b143 (N : Nat) (kh64 : Int32 → Int32 → Int32 → Option (Int32)) (s0 : zSt) (s1 : zSt) (s2 : zSt) (v1 : Int32) (v2 : Int32) (v3 : Int32) (v4 : Int32) (v5 : Int32) (v6 : Int32) (v7 : Int32) (v8 : Int32) : Option (Int32) :=
  (CH_isSoWith N s0 s2 s1 (zI s1 8) v8 v2 v3).bind (fun z1 => if z1 = 0 then (zck v8 40 ((Math_min N v7 ((zA s2 1) (Int32.toNatClampNeg v8))).bind (fun z5 => CH_came_b178 N kh64 s0 s1 s2 v1 v2 v3 v4 v5 v6 z5 v8))) else (CH_came_b178 N kh64 s0 s1 s2 v1 v2 v3 v4 v5 v6 v7 v8))
def CH_came_b64 (N : Nat) (kh64 : Int32 → Int32 → Int32 → Option (Int32)) (s0 : zSt) (s1 : zSt) (s2 : zSt) (v1 : Int32) (v2 : Int32) (v3 : Int32) (v4 : Int32) (v5 : Int32) (v6 : Int32) (v7 : Int32) (v8 : Int32) : Option (Int32) :=
  if (zI s2 0) ≤ v8 then (if v6 ≤ v7 then (if v4 = 0 then (some ((v7 - v6) + 1)) else (if v4 = 1 then (some (v6)) else (some (v7)))) else (if v4 = 0 then (some (0)) else (some ((-1))))) else ((Entries_isSound N s2 v8).bind (fun z5 => if z5 = 0 then (CH_came_b178 N kh64 s0 s1 s2 v1 v2 v3 v4 v5 v6 v7 v8) else ((Entries_counts N s2 v8 v5).bind (fun z8 => if z8 = 0 then (CH_came_b178 N kh64 s0 s1 s2 v1 v2 v3 v4 v5 v6 v7 v8) else ((CH_isSoWith N s0 s2 s1 ((zI s1 8) ||| ((1 : Int32) <<< (v1 &&& 31))) v8 v2 v3).bind (fun z11 => if z11 = 0 then (zck v8 40 ((Math_max N v6 (((zA s2 1) (Int32.toNatClampNeg v8)) + 1)).bind (fun z15 => CH_came_b143 N kh64 s0 s1 s2 v1 v2 v3 v4 v5 z15 v7 v8))) else (CH_came_b143 N kh64 s0 s1 s2 v1 v2 v3 v4 v5 v6 v7 v8)))))))
def CH_came_h64 (N : Nat) (s0 : zSt) (s1 : zSt) (s2 : zSt) (v1 : Int32) (v2 : Int32) (v3 : Int32) (v4 : Int32) (v5 : Int32) : Nat → Int32 → Int32 → Int32 → Option (Int32)
  | 0 => fun _ _ _ => none
  | n + 1 => fun v6 v7 v8 => CH_came_b64 N (CH_came_h64 N s0 s1 s2 v1 v2 v3 v4 v5 n) s0 s1 s2 v1 v2 v3 v4 v5 v6 v7 v8
theorem CH_came_h64_s (N : Nat) (s0 : zSt) (s1 : zSt) (s2 : zSt) (v1 : Int32) (v2 : Int32) (v3 : Int32) (v4 : Int32) (v5 : Int32) (n : Nat) (v6 : Int32) (v7 : Int32) (v8 : Int32) : CH_came_h64 N s0 s1 s2 v1 v2 v3 v4 v5 (n + 1) v6 v7 v8 = CH_came_b64 N (CH_came_h64 N s0 s1 s2 v1 v2 v3 v4 v5 n) s0 s1 s2 v1 v2 v3 v4 v5 v6 v7 v8 := rfl
def CH_came_b0 (N : Nat) (s0 : zSt) (s1 : zSt) (s2 : zSt) (v1 : Int32) (v2 : Int32) (v3 : Int32) (v4 : Int32) (v5 : Int32) : Option (Int32) :=
  (Valley_hasBell N s1 v1).bind (fun z1 => if z1 = 0 then (some ((-2))) else (zck v1 11 (if ((zA s1 7) (Int32.toNatClampNeg v1)) = (-1) then ((CH_isPlace N v2).bind (fun z6 => if z6 = 0 then (some ((-2))) else ((CH_isWind N v3).bind (fun z9 => if z9 = 0 then (some ((-2))) else ((CH_within N v4 0 2).bind (fun z12 => if z12 = 0 then (some ((-2))) else (CH_came_h64 N s0 s1 s2 v1 v2 v3 v4 v5 N 0 96 0))))))) else (some ((-2))))))
def CH_came (N : Nat) (s0 : zSt) (s1 : zSt) (s2 : zSt) (v1 : Int32) (v2 : Int32) (v3 : Int32) (v4 : Int32) (v5 : Int32) : Option (Int32) := CH_came_b0 N s0 s1 s2 v1 v2 v3 v4 v5
def CH_cracked_b0 (N : Nat) (s0 : zSt) (s1 : zSt) (s2 : zSt) (s3 : zSt) (v1 : Int32) : Option (Int32 × zSt × zSt) :=
  if (zI s1 9) ≤ 8 then ((Creeps_gather N s2 s1 s3 v1).bind (fun z2 => (Creeps_leastTogether N (zmg [6] z2 s2) 8 (zA s0 10)).bind (fun z4 => if z4.1 = (-1) then (some (z4.1, (zpI (zsA (zpI s0 11 0) 10 z4.2.2) 11 0), (zmg [3] z4.2.1 (zmg [6] z2 s2)))) else (some (z4.1, (zpI (zsA (zpI s0 11 0) 10 z4.2.2) 11 (zI s1 9)), (zmg [3] z4.2.1 (zmg [6] z2 s2))))))) else (some ((-2), (zpI s0 11 0), s2))
def CH_cracked (N : Nat) (s0 : zSt) (s1 : zSt) (s2 : zSt) (s3 : zSt) (v1 : Int32) : Option (Int32 × zSt × zSt) := CH_cracked_b0 N s0 s1 s2 s3 v1
def CH_first_b0 (N : Nat) (s0 : zSt) (s1 : zSt) (s2 : zSt) (s3 : zSt) (v1 : Int32) : Option (Int32 × zSt) :=
  if (zI s1 9) ≤ 8 then ((Creeps_gather N s2 s1 s3 v1).bind (fun z2 => (Creeps_firstThatCant N z2).bind (fun z4 => some (z4.1, z4.2)))) else (some ((-2), s2))
def CH_first (N : Nat) (s0 : zSt) (s1 : zSt) (s2 : zSt) (s3 : zSt) (v1 : Int32) : Option (Int32 × zSt) := CH_first_b0 N s0 s1 s2 s3 v1
def CH_dealt_b0 (N : Nat) (s0 : zSt) (s1 : zSt) (s2 : zSt) (v1 : Int32) : Option (Int32 × zSt × zSt) :=
  (CH_within N v1 1 2).bind (fun z1 => if z1 = 0 then (some ((-1), (zpI s0 11 0), s2)) else (if (zI s1 9) ≤ 8 then ((Dealer_deal N s2 s1 8 (zA s0 10) v1).bind (fun z5 => some (z5.1, (zsA (zpI (zpI s0 11 0) 11 (zI s1 9)) 10 z5.2.2), z5.2.1))) else (some ((-2), (zpI s0 11 0), s2))))
def CH_dealt (N : Nat) (s0 : zSt) (s1 : zSt) (s2 : zSt) (v1 : Int32) : Option (Int32 × zSt × zSt) := CH_dealt_b0 N s0 s1 s2 v1
def CH_lies_b0 (N : Nat) (s0 : zSt) (v1 : Int32) : Option (Int32) :=
  (CH_within N v1 0 ((zI s0 11) - 1)).bind (fun z1 => if z1 = 0 then (some ((-1))) else (zck v1 8 (some ((zA s0 10) (Int32.toNatClampNeg v1)))))
def CH_lies (N : Nat) (s0 : zSt) (v1 : Int32) : Option (Int32) := CH_lies_b0 N s0 v1
def CH_fresh_b104 (N : Nat) (kh57 : Int32 → Int32 → Int32 → Option (Int32)) (s0 : zSt) (s1 : zSt) (v1 : Int32) (v3 : Int32) (v4 : Int32) (v5 : Int32) (v6 : Int32) : Option (Int32) :=
  kh57 v4 v5 (v6 + 1)
def CH_fresh_b57 (N : Nat) (kh57 : Int32 → Int32 → Int32 → Option (Int32)) (s0 : zSt) (s1 : zSt) (v1 : Int32) (v3 : Int32) (v4 : Int32) (v5 : Int32) (v6 : Int32) : Option (Int32) :=
  if 12 ≤ v6 then (some (v4)) else ((Valley_farFrom N s1 v6 v3).bind (fun z2 => if z2 ≤ v5 then (CH_fresh_b104 N kh57 s0 s1 v1 v3 v4 v5 v6) else ((Valley_hasBeast N s1 v6 v1).bind (fun z5 => if z5 = 0 then (CH_fresh_b104 N kh57 s0 s1 v1 v3 v6 z2 v6) else (CH_fresh_b104 N kh57 s0 s1 v1 v3 v4 v5 v6)))))
def CH_fresh_h57 (N : Nat) (s0 : zSt) (s1 : zSt) (v1 : Int32) (v3 : Int32) : Nat → Int32 → Int32 → Int32 → Option (Int32)
  | 0 => fun _ _ _ => none
  | n + 1 => fun v4 v5 v6 => CH_fresh_b57 N (CH_fresh_h57 N s0 s1 v1 v3 n) s0 s1 v1 v3 v4 v5 v6
theorem CH_fresh_h57_s (N : Nat) (s0 : zSt) (s1 : zSt) (v1 : Int32) (v3 : Int32) (n : Nat) (v4 : Int32) (v5 : Int32) (v6 : Int32) : CH_fresh_h57 N s0 s1 v1 v3 (n + 1) v4 v5 v6 = CH_fresh_b57 N (CH_fresh_h57 N s0 s1 v1 v3 n) s0 s1 v1 v3 v4 v5 v6 := rfl
def CH_fresh_b0 (N : Nat) (s0 : zSt) (s1 : zSt) (v1 : Int32) (v2 : Int32) : Option (Int32) :=
  (CH_within N v1 1 99).bind (fun z1 => if z1 = 0 then (some ((-2))) else (if (v2 &&& ((zI s1 8) ^^^ (-1))) = 0 then ((Valley_eachIsKnown N s1).bind (fun z5 => if z5 = 0 then (some ((-1))) else ((Valley_withThoseBeside N s1 v2).bind (fun z8 => CH_fresh_h57 N s0 s1 v1 z8 N (-1) (-1) 0)))) else (some ((-2)))))
def CH_fresh (N : Nat) (s0 : zSt) (s1 : zSt) (v1 : Int32) (v2 : Int32) : Option (Int32) := CH_fresh_b0 N s0 s1 v1 v2
def CH_image_b0 (N : Nat) (s0 : zSt) (s2 : zSt) (s3 : zSt) (s4 : zSt) (s5 : zSt) (v1 : Int32) : Option (Int32 × zSt × zSt × zSt × zSt) :=
  (CH_within N v1 0 2).bind (fun z1 => if z1 = 0 then (some ((-1), s0, s2, s4, s5)) else (if v1 = 0 then ((Earnest_copy N s2 s3).bind (fun z5 => some (zI s3 4, (zpI s0 7 ((zI s0 7) ||| ((1 : Int32) <<< (v1 &&& 31)))), z5, s4, s5))) else if v1 = 1 then ((Earnest_copy N s4 s3).bind (fun z7 => some (zI s3 4, (zpI s0 7 ((zI s0 7) ||| ((1 : Int32) <<< (v1 &&& 31)))), s2, z7, s5))) else if v1 = 2 then ((Earnest_copy N s5 s3).bind (fun z9 => some (zI s3 4, (zpI s0 7 ((zI s0 7) ||| ((1 : Int32) <<< (v1 &&& 31)))), s2, s4, z9))) else none))
def CH_image (N : Nat) (s0 : zSt) (s2 : zSt) (s3 : zSt) (s4 : zSt) (s5 : zSt) (v1 : Int32) : Option (Int32 × zSt × zSt × zSt × zSt) := CH_image_b0 N s0 s2 s3 s4 s5 v1
def CH_back_b0 (N : Nat) (s0 : zSt) (s2 : zSt) (s3 : zSt) (s4 : zSt) (s5 : zSt) (v1 : Int32) : Option (Int32 × zSt) :=
  (CH_within N v1 0 2).bind (fun z1 => if z1 = 0 then (some ((-1), s2)) else (if (((zI s0 7) >>> (v1 &&& 31)) &&& 1) = 0 then (some ((-1), s2)) else (if v1 = 0 then ((Earnest_copy N s2 s3).bind (fun z6 => some (zI z6 4, z6))) else if v1 = 1 then ((Earnest_copy N s2 s4).bind (fun z8 => some (zI z8 4, z8))) else if v1 = 2 then ((Earnest_copy N s2 s5).bind (fun z10 => some (zI z10 4, z10))) else none)))
def CH_back (N : Nat) (s0 : zSt) (s2 : zSt) (s3 : zSt) (s4 : zSt) (s5 : zSt) (v1 : Int32) : Option (Int32 × zSt) := CH_back_b0 N s0 s2 s3 s4 s5 v1
def CH_about_b0 (N : Nat) (s0 : zSt) (s1 : zSt) (s2 : zSt) (s3 : zSt) (v1 : Int32) : Option (Int32) :=
  if v1 = 0 then (some (zI s3 0)) else (if v1 = 1 then (some (zI s3 9)) else (if v1 = 2 then (some ((zI s3 3) - (zI s3 9))) else (if v1 = 3 then (some (zI s3 12)) else (if v1 = 4 then (some (zI s2 2)) else (if v1 = 5 then (some (zI s2 3)) else (if v1 = 6 then (some (zI s2 4)) else (if v1 = 7 then (some (zI s1 0)) else (if v1 = 8 then (some (zI s0 9)) else (if v1 = 9 then (some (zI s0 1)) else (if v1 = 10 then (some (zI s0 11)) else (some ((-1)))))))))))))
def CH_about (N : Nat) (s0 : zSt) (s1 : zSt) (s2 : zSt) (s3 : zSt) (v1 : Int32) : Option (Int32) := CH_about_b0 N s0 s1 s2 s3 v1
def Mo_four_b3 (N : Nat) (kh3 : zSt → Int32 → Option (zSt)) (s0 : zSt) (v1 : Int32) (v2 : Int32) : Option (zSt) :=
  if v2 < 0 then (some (s0)) else (zck (zI s0 1) 1500 (kh3 (zpI (zsA s0 0 (upd (zA s0 0) (Int32.toNatClampNeg (zI s0 1)) ((v1 >>> (v2 &&& 31)) &&& 255))) 1 ((zI s0 1) + 1)) (v2 + (-8))))
def Mo_four_h3 (N : Nat) (v1 : Int32) : Nat → zSt → Int32 → Option (zSt)
  | 0 => fun _ _ => none
  | n + 1 => fun s0 v2 => Mo_four_b3 N (Mo_four_h3 N v1 n) s0 v1 v2
theorem Mo_four_h3_s (N : Nat) (v1 : Int32) (n : Nat) (s0 : zSt) (v2 : Int32) : Mo_four_h3 N v1 (n + 1) s0 v2 = Mo_four_b3 N (Mo_four_h3 N v1 n) s0 v1 v2 := rfl
def Mo_four_b0 (N : Nat) (s0 : zSt) (v1 : Int32) : Option (zSt) :=
  Mo_four_h3 N v1 N s0 24
def Mo_four (N : Nat) (s0 : zSt) (v1 : Int32) : Option (zSt) := Mo_four_b0 N s0 v1
def Mo_feed_b0 (N : Nat) (s0 : zSt) (v1 : Int32) (v2 : Int32) (v3 : Int32) (v4 : Int32) (v5 : Int32) : Option (Int32 × zSt) :=
  if ((zI s0 1) + 20) ≤ 1500 then ((Mo_four N s0 v1).bind (fun z2 => (Mo_four N z2 v2).bind (fun z4 => (Mo_four N z4 v3).bind (fun z6 => (Mo_four N z6 v4).bind (fun z8 => (Mo_four N z8 v5).bind (fun z10 => some (zI z10 1, z10))))))) else (some ((-1), s0))
def Mo_feed (N : Nat) (s0 : zSt) (v1 : Int32) (v2 : Int32) (v3 : Int32) (v4 : Int32) (v5 : Int32) : Option (Int32 × zSt) := Mo_feed_b0 N s0 v1 v2 v3 v4 v5
def Mo_end_b0 (N : Nat) (s0 : zSt) (v1 : Int32) : Option (Int32 × zSt) :=
  if v1 < 0 then (some ((-1), s0)) else (if v1 ≤ (zI s0 1) then (some (v1, (zpI s0 1 v1))) else (some ((-1), s0)))
def Mo_end (N : Nat) (s0 : zSt) (v1 : Int32) : Option (Int32 × zSt) := Mo_end_b0 N s0 v1
def Mo_here_b0 (N : Nat) (s0 : zSt) (v1 : Int32) : Option (Int32) :=
  if (zI s0 5) ≤ ((zI s0 4) + v1) then (some ((-1))) else (zck ((zI s0 4) + v1) 1500 (some ((zA s0 0) (Int32.toNatClampNeg ((zI s0 4) + v1)))))
def Mo_here (N : Nat) (s0 : zSt) (v1 : Int32) : Option (Int32) := Mo_here_b0 N s0 v1
def Mo_isLetter_b0 (N : Nat) (v0 : Int32) : Option (Int32) :=
  if v0 < 97 then (some (0)) else (if 122 < v0 then (some (0)) else (some (1)))
def Mo_isLetter (N : Nat) (v0 : Int32) : Option (Int32) := Mo_isLetter_b0 N v0
def Mo_isDigit_b0 (N : Nat) (v0 : Int32) : Option (Int32) :=
  if v0 < 48 then (some (0)) else (if 57 < v0 then (some (0)) else (some (1)))
def Mo_isDigit (N : Nat) (v0 : Int32) : Option (Int32) := Mo_isDigit_b0 N v0
def Mo_token_b231 (N : Nat) (s0 : zSt) (v2 : Int32) : Option (zSt) :=
  if (zI s0 6) = 3 then (some (s0)) else (some ((zpI s0 4 ((zI s0 4) + v2))))
def Mo_token_b228 (N : Nat) (s0 : zSt) (v2 : Int32) (t1 : Int32) : Option (zSt) :=
  Mo_token_b231 N (zpI s0 6 t1) v2
def Mo_token_b208 (N : Nat) (s0 : zSt) (v2 : Int32) (t1 : Int32) : Option (zSt) :=
  Mo_token_b231 N (zpI s0 6 t1) v2
def Mo_token_b203 (N : Nat) (s0 : zSt) (v2 : Int32) : Option (zSt) :=
  Mo_token_b208 N s0 v2 3
def Mo_token_b180 (N : Nat) (kh144 : zSt → Int32 → Option (zSt)) (s0 : zSt) (v2 : Int32) : Option (zSt) :=
  kh144 s0 (v2 + 1)
def Mo_token_b144 (N : Nat) (kh144 : zSt → Int32 → Option (zSt)) (s0 : zSt) (v2 : Int32) : Option (zSt) :=
  (Mo_here N s0 v2).bind (fun z1 => (Mo_isDigit N z1).bind (fun z3 => if z3 = 0 then (if 4 < v2 then (Mo_token_b203 N s0 v2) else ((Mo_here N s0 v2).bind (fun z7 => (Mo_isLetter N z7).bind (fun z9 => if z9 = 0 then (Mo_token_b208 N s0 v2 2) else (Mo_token_b203 N s0 v2))))) else (if 4 ≤ v2 then (Mo_token_b180 N kh144 s0 v2) else ((Mo_here N s0 v2).bind (fun z13 => Mo_token_b180 N kh144 (zpI s0 8 (((10 * (zI s0 8)) + z13) - 48)) v2)))))
def Mo_token_h144 (N : Nat) : Nat → zSt → Int32 → Option (zSt)
  | 0 => fun _ _ => none
  | n + 1 => fun s0 v2 => Mo_token_b144 N (Mo_token_h144 N n) s0 v2
theorem Mo_token_h144_s (N : Nat) (n : Nat) (s0 : zSt) (v2 : Int32) : Mo_token_h144 N (n + 1) s0 v2 = Mo_token_b144 N (Mo_token_h144 N n) s0 v2 := rfl
def Mo_token_b131 (N : Nat) (s0 : zSt) (v2 : Int32) (t1 : Int32) : Option (zSt) :=
  Mo_token_b231 N (zpI s0 6 t1) v2
def Mo_token_b113 (N : Nat) (kh78 : zSt → Int32 → Option (zSt)) (s0 : zSt) (v2 : Int32) : Option (zSt) :=
  kh78 s0 (v2 + 1)
def Mo_token_b78 (N : Nat) (kh78 : zSt → Int32 → Option (zSt)) (s0 : zSt) (v2 : Int32) : Option (zSt) :=
  (Mo_here N s0 v2).bind (fun z1 => (Mo_isLetter N z1).bind (fun z3 => if z3 = 0 then (if v2 ≤ 8 then (Mo_token_b131 N s0 v2 1) else (Mo_token_b131 N s0 v2 3)) else (if 8 ≤ v2 then (Mo_token_b113 N kh78 s0 v2) else ((Mo_here N s0 v2).bind (fun z8 => Mo_token_b113 N kh78 (zpL s0 9 (((zL s0 9) <<< (Int32.toInt64 8 &&& 63)) ||| (Int32.toInt64 z8))) v2)))))
def Mo_token_h78 (N : Nat) : Nat → zSt → Int32 → Option (zSt)
  | 0 => fun _ _ => none
  | n + 1 => fun s0 v2 => Mo_token_b78 N (Mo_token_h78 N n) s0 v2
theorem Mo_token_h78_s (N : Nat) (n : Nat) (s0 : zSt) (v2 : Int32) : Mo_token_h78 N (n + 1) s0 v2 = Mo_token_b78 N (Mo_token_h78 N n) s0 v2 := rfl
def Mo_token_b20 (N : Nat) (kh0 : zSt → Option (zSt)) (s0 : zSt) : Option (zSt) :=
  kh0 (zpI s0 4 ((zI s0 4) + 1))
def Mo_token_b0 (N : Nat) (kh0 : zSt → Option (zSt)) (s0 : zSt) : Option (zSt) :=
  (Mo_here N s0 0).bind (fun z1 => if z1 = 32 then (Mo_token_b20 N kh0 s0) else ((Mo_here N s0 0).bind (fun z4 => if z4 = 10 then (Mo_token_b20 N kh0 s0) else ((Mo_here N (zpI s0 7 (zI s0 4)) 0).bind (fun z7 => if 0 ≤ z7 then ((Mo_isLetter N z7).bind (fun z10 => if z10 = 0 then ((Mo_isDigit N z7).bind (fun z13 => if z13 = 0 then (if z7 = 59 then (Mo_token_b228 N (zpI (zpL (zpI s0 7 (zI s0 4)) 9 0) 8 0) 1 z7) else (Mo_token_b228 N (zpI (zpL (zpI s0 7 (zI s0 4)) 9 0) 8 0) 1 3)) else (Mo_token_h144 N N (zpI (zpL (zpI s0 7 (zI s0 4)) 9 0) 8 0) 0))) else (Mo_token_h78 N N (zpI (zpL (zpI s0 7 (zI s0 4)) 9 0) 8 0) 0))) else (Mo_token_b231 N (zpI (zpI (zpL (zpI s0 7 (zI s0 4)) 9 0) 8 0) 6 0) 0))))))
def Mo_token_h0 (N : Nat) : Nat → zSt → Option (zSt)
  | 0 => fun _ => none
  | n + 1 => fun s0 => Mo_token_b0 N (Mo_token_h0 N n) s0
theorem Mo_token_h0_s (N : Nat) (n : Nat) (s0 : zSt) : Mo_token_h0 N (n + 1) s0 = Mo_token_b0 N (Mo_token_h0 N n) s0 := rfl
def Mo_token (N : Nat) (s0 : zSt) : Option (zSt) := Mo_token_h0 N  N s0
def Mo_wrong_b22 (N : Nat) (s0 : zSt) (t1 : Int32) : Option (zSt) :=
  some ((zpI (zpI s0 2 t1) 3 (zI s0 7)))
def Mo_wrong_b0 (N : Nat) (s0 : zSt) (v1 : Int32) : Option (zSt) :=
  if (zI s0 2) ≤ 0 then (if (zI s0 6) = 3 then (Mo_wrong_b22 N s0 1) else (Mo_wrong_b22 N s0 v1)) else (some (s0))
def Mo_wrong (N : Nat) (s0 : zSt) (v1 : Int32) : Option (zSt) := Mo_wrong_b0 N s0 v1
def Mo_isWord_b0 (N : Nat) (s0 : zSt) (v1 : Int64) : Option (Int32) :=
  if (zI s0 6) = 1 then (if (lg_cmp (zL s0 9) v1) = 0 then (some (1)) else (some (0))) else (some (0))
def Mo_isWord (N : Nat) (s0 : zSt) (v1 : Int64) : Option (Int32) := Mo_isWord_b0 N s0 v1
def Mo_isName_b0 (N : Nat) (s0 : zSt) : Option (Int32) :=
  if (zI s0 6) = 1 then (if (lg_cmp (zL s0 9) 1751478884) = 0 then (some (0)) else (if (lg_cmp (zL s0 9) 422607680372) = 0 then (some (0)) else (if (lg_cmp (zL s0 9) 28518) = 0 then (some (0)) else (if (lg_cmp (zL s0 9) 1650814060) = 0 then (some (0)) else (if (lg_cmp (zL s0 9) 1819243876) = 0 then (some (0)) else (if (lg_cmp (zL s0 9) 8319400174449812850) = 0 then (some (0)) else (if (lg_cmp (zL s0 9) 6644082) = 0 then (some (0)) else (if (lg_cmp (zL s0 9) 24948) = 0 then (some (0)) else (if (lg_cmp (zL s0 9) 108187867505765) = 0 then (some (0)) else (some (1))))))))))) else (some (0))
def Mo_isName (N : Nat) (s0 : zSt) : Option (Int32) := Mo_isName_b0 N s0
def Mo_want_b0 (N : Nat) (s0 : zSt) (v1 : Int64) : Option (zSt) :=
  if (zI s0 2) ≤ 0 then ((Mo_isWord N s0 v1).bind (fun z2 => if z2 = 0 then ((Mo_wrong N s0 2).bind (fun z7 => some ((zmg [0] z7 s0)))) else ((Mo_token N s0).bind (fun z5 => some (z5))))) else (some (s0))
def Mo_want (N : Nat) (s0 : zSt) (v1 : Int64) : Option (zSt) := Mo_want_b0 N s0 v1
def Mo_toldNumber_b46 (N : Nat) (s0 : zSt) : Option (Int32 × zSt) :=
  if (zI s0 2) = 0 then ((Mo_token N s0).bind (fun z2 => some (zI s0 8, z2))) else (some (zI s0 8, s0))
def Mo_toldNumber_b41 (N : Nat) (s0 : zSt) : Option (Int32 × zSt) :=
  (Mo_wrong N s0 4).bind (fun z1 => Mo_toldNumber_b46 N (zmg [0] z1 s0))
def Mo_toldNumber_b0 (N : Nat) (s0 : zSt) (v1 : Int32) (v2 : Int32) : Option (Int32 × zSt) :=
  if (zI s0 2) ≤ 0 then (if (zI s0 6) = 2 then (if (zI s0 8) < v1 then (Mo_toldNumber_b41 N s0) else (if (zI s0 8) ≤ v2 then (Mo_toldNumber_b46 N s0) else (Mo_toldNumber_b41 N s0))) else ((Mo_wrong N s0 2).bind (fun z5 => Mo_toldNumber_b46 N (zmg [0] z5 s0)))) else (some (0, s0))
def Mo_toldNumber (N : Nat) (s0 : zSt) (v1 : Int32) (v2 : Int32) : Option (Int32 × zSt) := Mo_toldNumber_b0 N s0 v1 v2
def Mo_told_b0 (N : Nat) (s0 : zSt) (v1 : Int64) (v3 : Int32) (v4 : Int32) : Option (Int32 × zSt) :=
  (Mo_want N s0 v1).bind (fun z1 => (Mo_toldNumber N z1 v3 v4).bind (fun z3 => some (z3.1, z3.2)))
def Mo_told (N : Nat) (s0 : zSt) (v1 : Int64) (v3 : Int32) (v4 : Int32) : Option (Int32 × zSt) := Mo_told_b0 N s0 v1 v3 v4
def Mo_find_b34 (N : Nat) (kh5 : Int32 → Int32 → Option (Int32)) (s0 : zSt) (v1 : Int32) (v2 : Int32) (v4 : Int32) (t0 : Int32) : Option (Int32) :=
  kh5 t0 (v4 + 1)
def Mo_find_b5 (N : Nat) (kh5 : Int32 → Int32 → Option (Int32)) (s0 : zSt) (v1 : Int32) (v2 : Int32) (v3 : Int32) (v4 : Int32) : Option (Int32) :=
  if v2 ≤ v4 then (some (v3)) else (zck (v1 + v4) 48 (if (lg_cmp ((zB s0 10) (Int32.toNatClampNeg (v1 + v4))) (zL s0 9)) = 0 then (Mo_find_b34 N kh5 s0 v1 v2 v4 v4) else (Mo_find_b34 N kh5 s0 v1 v2 v4 v3)))
def Mo_find_h5 (N : Nat) (s0 : zSt) (v1 : Int32) (v2 : Int32) : Nat → Int32 → Int32 → Option (Int32)
  | 0 => fun _ _ => none
  | n + 1 => fun v3 v4 => Mo_find_b5 N (Mo_find_h5 N s0 v1 v2 n) s0 v1 v2 v3 v4
theorem Mo_find_h5_s (N : Nat) (s0 : zSt) (v1 : Int32) (v2 : Int32) (n : Nat) (v3 : Int32) (v4 : Int32) : Mo_find_h5 N s0 v1 v2 (n + 1) v3 v4 = Mo_find_b5 N (Mo_find_h5 N s0 v1 v2 n) s0 v1 v2 v3 v4 := rfl
def Mo_find_b0 (N : Nat) (s0 : zSt) (v1 : Int32) (v2 : Int32) : Option (Int32) :=
  Mo_find_h5 N s0 v1 v2 N (-1) 0
def Mo_find (N : Nat) (s0 : zSt) (v1 : Int32) (v2 : Int32) : Option (Int32) := Mo_find_b0 N s0 v1 v2
def Mo_newName_b33 (N : Nat) (s0 : zSt) (v1 : Int32) (v2 : Int32) : Option (zSt) :=
  if (zI s0 2) ≤ 0 then (zck (v1 + v2) 48 ((Mo_token N (zsB s0 10 (vp_updL (zB s0 10) (Int32.toNatClampNeg (v1 + v2)) (zL s0 9)))).bind (fun z3 => some ((zmg [10] z3 (zsB s0 10 (vp_updL (zB s0 10) (Int32.toNatClampNeg (v1 + v2)) (zL s0 9)))))))) else (some (s0))
def Mo_newName_b0 (N : Nat) (s0 : zSt) (v1 : Int32) (v2 : Int32) : Option (zSt) :=
  (Mo_token N s0).bind (fun z1 => (Mo_isName N (zmg [10] z1 s0)).bind (fun z3 => if z3 = 0 then ((Mo_wrong N (zmg [10] z1 s0) 2).bind (fun z11 => Mo_newName_b33 N (zmg [0,10] z11 (zmg [10] z1 s0)) v1 v2)) else ((Mo_find N (zmg [10] z1 s0) v1 v2).bind (fun z6 => if z6 < 0 then (Mo_newName_b33 N (zmg [10] z1 s0) v1 v2) else ((Mo_wrong N (zmg [10] z1 s0) 3).bind (fun z9 => Mo_newName_b33 N (zmg [0,10] z9 (zmg [10] z1 s0)) v1 v2))))))
def Mo_newName (N : Nat) (s0 : zSt) (v1 : Int32) (v2 : Int32) : Option (zSt) := Mo_newName_b0 N s0 v1 v2
def Mo_readHerd_b0 (N : Nat) (s0 : zSt) : Option (zSt) :=
  (Mo_newName N s0 0 (zI s0 22)).bind (fun z1 => if (zI z1 2) = 0 then (some ((zpI z1 22 ((zI z1 22) + 1)))) else (some (z1)))
def Mo_readHerd (N : Nat) (s0 : zSt) : Option (zSt) := Mo_readHerd_b0 N s0
def Mo_readBell_b0 (N : Nat) (s0 : zSt) (v1 : Int32) : Option (zSt) :=
  zck (zI s0 23) 11 (zck (zI s0 23) 11 ((Mo_told N (zsA (zsA s0 13 (upd (zA s0 13) (Int32.toNatClampNeg (zI s0 23)) v1)) 15 (upd (zA s0 15) (Int32.toNatClampNeg (zI s0 23)) 0)) 1650814060 0 11).bind (fun z3 => zck (zI s0 23) 11 ((Mo_told N (zsA (zmg [11,12,13,15] z3.2 (zsA (zsA s0 13 (upd (zA s0 13) (Int32.toNatClampNeg (zI s0 23)) v1)) 15 (upd (zA s0 15) (Int32.toNatClampNeg (zI s0 23)) 0))) 11 (upd (zA s0 11) (Int32.toNatClampNeg (zI s0 23)) z3.1)) 1819243876 1 99).bind (fun z6 => zck (zI z3.2 23) 11 (if (zI z6.2 2) = 0 then (some ((zpI (zsA (zmg [11,12,13,15] z6.2 (zsA (zmg [11,12,13,15] z3.2 (zsA (zsA s0 13 (upd (zA s0 13) (Int32.toNatClampNeg (zI s0 23)) v1)) 15 (upd (zA s0 15) (Int32.toNatClampNeg (zI s0 23)) 0))) 11 (upd (zA s0 11) (Int32.toNatClampNeg (zI s0 23)) z3.1))) 12 (upd (zA s0 12) (Int32.toNatClampNeg (zI z3.2 23)) z6.1)) 23 ((zI z6.2 23) + 1)))) else (some ((zsA (zmg [11,12,13,15] z6.2 (zsA (zmg [11,12,13,15] z3.2 (zsA (zsA s0 13 (upd (zA s0 13) (Int32.toNatClampNeg (zI s0 23)) v1)) 15 (upd (zA s0 15) (Int32.toNatClampNeg (zI s0 23)) 0))) 11 (upd (zA s0 11) (Int32.toNatClampNeg (zI s0 23)) z3.1))) 12 (upd (zA s0 12) (Int32.toNatClampNeg (zI z3.2 23)) z6.1))))))))))
def Mo_readBell (N : Nat) (s0 : zSt) (v1 : Int32) : Option (zSt) := Mo_readBell_b0 N s0 v1
def Mo_readBeast_b70 (N : Nat) (s0 : zSt) (v1 : Int32) : Option (zSt) :=
  (Mo_readBell N s0 v1).bind (fun z1 => if (zI z1 2) = 0 then (some ((zpI (zmg [10] z1 s0) 24 ((zI z1 24) + 1)))) else (some ((zmg [10] z1 s0))))
def Mo_readBeast_b59 (N : Nat) (s0 : zSt) (v1 : Int32) : Option (zSt) :=
  if (zI s0 2) = 0 then ((Mo_token N s0).bind (fun z2 => Mo_readBeast_b70 N (zmg [10,11,12,13,15] z2 s0) v1)) else (Mo_readBeast_b70 N s0 v1)
def Mo_readBeast_b0 (N : Nat) (s0 : zSt) : Option (zSt) :=
  (Mo_newName N s0 16 (zI s0 23)).bind (fun z1 => (Mo_want N (zmg [11,12,13,15] z1 s0) 28518).bind (fun z3 => if (zI z3 2) ≤ 0 then ((Mo_find N (zmg [10,11,12,13,15] z3 (zmg [11,12,13,15] z1 s0)) 0 (zI z3 22)).bind (fun z6 => (Mo_isName N (zmg [10,11,12,13,15] z3 (zmg [11,12,13,15] z1 s0))).bind (fun z8 => if z8 = 0 then ((Mo_wrong N (zmg [10,11,12,13,15] z3 (zmg [11,12,13,15] z1 s0)) 2).bind (fun z14 => Mo_readBeast_b59 N (zmg [0,10,11,12,13,15] z14 (zmg [10,11,12,13,15] z3 (zmg [11,12,13,15] z1 s0))) z6)) else (if 0 ≤ z6 then (Mo_readBeast_b59 N (zmg [10,11,12,13,15] z3 (zmg [11,12,13,15] z1 s0)) z6) else ((Mo_wrong N (zmg [10,11,12,13,15] z3 (zmg [11,12,13,15] z1 s0)) 5).bind (fun z12 => Mo_readBeast_b59 N (zmg [0,10,11,12,13,15] z12 (zmg [10,11,12,13,15] z3 (zmg [11,12,13,15] z1 s0))) z6)))))) else (some ((zmg [10,11,12,13,15] z3 (zmg [11,12,13,15] z1 s0))))))
def Mo_readBeast (N : Nat) (s0 : zSt) : Option (zSt) := Mo_readBeast_b0 N s0
def Mo_readStranger_b0 (N : Nat) (s0 : zSt) : Option (zSt) :=
  (Mo_newName N s0 16 (zI s0 23)).bind (fun z1 => (Mo_readBell N (zmg [11,12,13,15] z1 s0) (-1)).bind (fun z3 => if (zI z3 2) = 0 then (some ((zpI (zmg [10] z3 (zmg [11,12,13,15] z1 s0)) 25 ((zI z3 25) + 1)))) else (some ((zmg [10] z3 (zmg [11,12,13,15] z1 s0))))))
def Mo_readStranger (N : Nat) (s0 : zSt) : Option (zSt) := Mo_readStranger_b0 N s0
def Mo_readEar_b0 (N : Nat) (s0 : zSt) : Option (zSt) :=
  (Mo_newName N s0 32 (zI s0 26)).bind (fun z1 => (Mo_told N (zmg [14] z1 s0) 24948 0 99).bind (fun z3 => zck (zI z1 26) 4 (if (zI z3.2 2) = 0 then (some ((zpI (zsA (zmg [10,14] z3.2 (zmg [14] z1 s0)) 14 (upd (zA s0 14) (Int32.toNatClampNeg (zI z1 26)) z3.1)) 26 ((zI z3.2 26) + 1)))) else (some ((zsA (zmg [10,14] z3.2 (zmg [14] z1 s0)) 14 (upd (zA s0 14) (Int32.toNatClampNeg (zI z1 26)) z3.1)))))))
def Mo_readEar (N : Nat) (s0 : zSt) : Option (zSt) := Mo_readEar_b0 N s0
def Mo_old_b48 (N : Nat) (s0 : zSt) (v1 : Int32) : Option (Int32 × zSt) :=
  (Mo_wrong N s0 5).bind (fun z1 => some (v1, (zmg [10,13] z1 s0)))
def Mo_old_b0 (N : Nat) (s0 : zSt) : Option (Int32 × zSt) :=
  if (zI s0 2) ≤ 0 then ((Mo_find N s0 16 (zI s0 23)).bind (fun z2 => (Mo_isName N s0).bind (fun z4 => if z4 = 0 then ((Mo_wrong N s0 2).bind (fun z10 => some (z2, (zmg [10,13] z10 s0)))) else (if z2 < 0 then (Mo_old_b48 N s0 z2) else (zck z2 11 (if 0 ≤ ((zA s0 13) (Int32.toNatClampNeg z2)) then (some (z2, s0)) else (Mo_old_b48 N s0 z2))))))) else (some (0, s0))
def Mo_old (N : Nat) (s0 : zSt) : Option (Int32 × zSt) := Mo_old_b0 N s0
def Mo_readBeside_b102 (N : Nat) (s0 : zSt) : Option (zSt) :=
  some (s0)
def Mo_readBeside_b92 (N : Nat) (s0 : zSt) : Option (zSt) :=
  Mo_readBeside_b102 N (zpI s0 27 ((zI s0 27) + 1))
def Mo_readBeside_b56 (N : Nat) (s0 : zSt) (v1 : Int32) (v2 : Int32) : Option (zSt) :=
  if (zI s0 2) ≤ 0 then ((Mo_token N s0).bind (fun z2 => zck v1 11 (zck v1 11 (zck v2 11 (zck v2 11 (Mo_readBeside_b92 N (zsA (zsA (zmg [10,13,15] z2 s0) 15 (upd (zA s0 15) (Int32.toNatClampNeg v1) (((zA s0 15) (Int32.toNatClampNeg v1)) ||| ((1 : Int32) <<< (v2 &&& 31))))) 15 (upd (upd (zA s0 15) (Int32.toNatClampNeg v1) (((zA s0 15) (Int32.toNatClampNeg v1)) ||| ((1 : Int32) <<< (v2 &&& 31)))) (Int32.toNatClampNeg v2) (((upd (zA s0 15) (Int32.toNatClampNeg v1) (((zA s0 15) (Int32.toNatClampNeg v1)) ||| ((1 : Int32) <<< (v2 &&& 31)))) (Int32.toNatClampNeg v2)) ||| ((1 : Int32) <<< (v1 &&& 31))))))))))) else (some (s0))
def Mo_readBeside_b51 (N : Nat) (s0 : zSt) (v1 : Int32) (v2 : Int32) : Option (zSt) :=
  (Mo_wrong N s0 3).bind (fun z1 => Mo_readBeside_b56 N (zmg [0,10,13,15] z1 s0) v1 v2)
def Mo_readBeside_b20 (N : Nat) (s0 : zSt) (v1 : Int32) : Option (zSt) :=
  (Mo_old N s0).bind (fun z1 => if (zI z1.2 2) = 0 then (if v1 = z1.1 then (Mo_readBeside_b51 N (zmg [0,15] z1.2 s0) v1 z1.1) else (zck v1 11 (if ((((zA s0 15) (Int32.toNatClampNeg v1)) >>> (z1.1 &&& 31)) &&& 1) = 1 then (Mo_readBeside_b51 N (zmg [0,15] z1.2 s0) v1 z1.1) else (Mo_readBeside_b56 N (zmg [0,15] z1.2 s0) v1 z1.1)))) else (Mo_readBeside_b56 N (zmg [0,15] z1.2 s0) v1 z1.1))
def Mo_readBeside_b0 (N : Nat) (s0 : zSt) : Option (zSt) :=
  (Mo_token N s0).bind (fun z1 => (Mo_old N (zmg [10,13,15] z1 s0)).bind (fun z3 => if (zI z3.2 2) = 0 then ((Mo_token N (zmg [0,15] z3.2 (zmg [10,13,15] z1 s0))).bind (fun z6 => Mo_readBeside_b20 N (zmg [10,13,15] z6 (zmg [0,15] z3.2 (zmg [10,13,15] z1 s0))) z3.1)) else (Mo_readBeside_b20 N (zmg [0,15] z3.2 (zmg [10,13,15] z1 s0)) z3.1)))
def Mo_readBeside (N : Nat) (s0 : zSt) : Option (zSt) := Mo_readBeside_b0 N s0
def Mo_readLine_b153 (N : Nat) (s0 : zSt) : Option (zSt) :=
  if (zI s0 2) = 0 then ((Mo_token N s0).bind (fun z2 => some ((zmg [10,11,12,13,14,15] z2 s0)))) else (some (s0))
def Mo_readLine_b132 (N : Nat) (s0 : zSt) : Option (zSt) :=
  if (zI s0 2) = 0 then (if (zI s0 6) = 59 then (Mo_readLine_b153 N s0) else ((Mo_wrong N s0 2).bind (fun z3 => Mo_readLine_b153 N (zmg [0,10,11,12,13,14,15] z3 s0)))) else (Mo_readLine_b153 N s0)
def Mo_readLine_b127 (N : Nat) (s0 : zSt) : Option (zSt) :=
  (Mo_wrong N s0 2).bind (fun z1 => Mo_readLine_b132 N (zmg [0,10,11,12,13,14,15] z1 s0))
def Mo_readLine_b101 (N : Nat) (s0 : zSt) : Option (zSt) :=
  (Mo_isWord N s0 108187867505765).bind (fun z1 => if z1 = 0 then (Mo_readLine_b127 N s0) else (if 20 ≤ (zI s0 27) then (Mo_readLine_b127 N s0) else ((Mo_readBeside N s0).bind (fun z5 => Mo_readLine_b132 N (zmg [11,12,14] z5 s0)))))
def Mo_readLine_b76 (N : Nat) (s0 : zSt) : Option (zSt) :=
  (Mo_isWord N s0 6644082).bind (fun z1 => if z1 = 0 then (Mo_readLine_b101 N s0) else (if 4 ≤ (zI s0 26) then (Mo_readLine_b101 N s0) else ((Mo_readEar N s0).bind (fun z5 => Mo_readLine_b132 N (zmg [11,12,13,15] z5 s0)))))
def Mo_readLine_b51 (N : Nat) (s0 : zSt) : Option (zSt) :=
  (Mo_isWord N s0 8319400174449812850).bind (fun z1 => if z1 = 0 then (Mo_readLine_b76 N s0) else (if 2 ≤ (zI s0 25) then (Mo_readLine_b76 N s0) else ((Mo_readStranger N s0).bind (fun z5 => Mo_readLine_b132 N (zmg [14] z5 s0)))))
def Mo_readLine_b25 (N : Nat) (s0 : zSt) : Option (zSt) :=
  (Mo_isWord N s0 422607680372).bind (fun z1 => if z1 = 0 then (Mo_readLine_b51 N s0) else (if 9 ≤ (zI s0 24) then (Mo_readLine_b51 N s0) else ((Mo_readBeast N s0).bind (fun z5 => Mo_readLine_b132 N (zmg [14] z5 s0)))))
def Mo_readLine_b0 (N : Nat) (s0 : zSt) : Option (zSt) :=
  (Mo_isWord N s0 1751478884).bind (fun z1 => if z1 = 0 then (Mo_readLine_b25 N s0) else (if 3 ≤ (zI s0 22) then (Mo_readLine_b25 N s0) else ((Mo_readHerd N s0).bind (fun z5 => Mo_readLine_b132 N (zmg [11,12,13,14,15] z5 s0)))))
def Mo_readLine (N : Nat) (s0 : zSt) : Option (zSt) := Mo_readLine_b0 N s0
def Mo_readAll_b62 (N : Nat) (kh62 : zSt → Option (zSt)) (s0 : zSt) : Option (zSt) :=
  if (zI s0 2) = 0 then (if (zI s0 6) = 0 then (some (s0)) else ((Mo_readLine N s0).bind (fun z3 => kh62 z3))) else (some (s0))
def Mo_readAll_h62 (N : Nat) : Nat → zSt → Option (zSt)
  | 0 => fun _ => none
  | n + 1 => fun s0 => Mo_readAll_b62 N (Mo_readAll_h62 N n) s0
theorem Mo_readAll_h62_s (N : Nat) (n : Nat) (s0 : zSt) : Mo_readAll_h62 N (n + 1) s0 = Mo_readAll_b62 N (Mo_readAll_h62 N n) s0 := rfl
def Mo_readAll_b0 (N : Nat) (s0 : zSt) : Option (zSt) :=
  (Mo_token N (zpI (zpI (zpI (zpI (zpI (zpI (zpI (zpI (zpI (zpI (zpI s0 5 (zI s0 1)) 1 0) 4 0) 2 0) 3 (-1)) 22 0) 23 0) 24 0) 25 0) 26 0) 27 0)).bind (fun z1 => Mo_readAll_h62 N N (zmg [10,11,12,13,14,15] z1 (zpI (zpI (zpI (zpI (zpI (zpI (zpI (zpI (zpI (zpI (zpI s0 5 (zI s0 1)) 1 0) 4 0) 2 0) 3 (-1)) 22 0) 23 0) 24 0) 25 0) 26 0) 27 0)))
def Mo_readAll (N : Nat) (s0 : zSt) : Option (zSt) := Mo_readAll_b0 N s0
def Mo_beastSet_b4 (N : Nat) (kh4 : Int32 → Int32 → Option (Int32)) (s0 : zSt) (v1 : Int32) (v2 : Int32) : Option (Int32) :=
  if (zI s0 30) ≤ v2 then (some (v1)) else (zck v2 9 (kh4 (v1 ||| ((1 : Int32) <<< (((zA s0 21) (Int32.toNatClampNeg v2)) &&& 31))) (v2 + 1)))
def Mo_beastSet_h4 (N : Nat) (s0 : zSt) : Nat → Int32 → Int32 → Option (Int32)
  | 0 => fun _ _ => none
  | n + 1 => fun v1 v2 => Mo_beastSet_b4 N (Mo_beastSet_h4 N s0 n) s0 v1 v2
theorem Mo_beastSet_h4_s (N : Nat) (s0 : zSt) (n : Nat) (v1 : Int32) (v2 : Int32) : Mo_beastSet_h4 N s0 (n + 1) v1 v2 = Mo_beastSet_b4 N (Mo_beastSet_h4 N s0 n) s0 v1 v2 := rfl
def Mo_beastSet_b0 (N : Nat) (s0 : zSt) : Option (Int32) :=
  Mo_beastSet_h4 N s0 N 0 0
def Mo_beastSet (N : Nat) (s0 : zSt) : Option (Int32) := Mo_beastSet_b0 N s0
def Mo_valley_b229 (N : Nat) (kh229 : zSt → Int32 → Option (Int32 × zSt)) (s0 : zSt) (v1 : Int32) : Option (Int32 × zSt) :=
  if 3 ≤ v1 then (some (zI s0 29, s0)) else (zck v1 3 (kh229 (zsA s0 62 (upd (zA s0 62) (Int32.toNatClampNeg v1) 0)) (v1 + 1)))
def Mo_valley_h229 (N : Nat) : Nat → zSt → Int32 → Option (Int32 × zSt)
  | 0 => fun _ _ => none
  | n + 1 => fun s0 v1 => Mo_valley_b229 N (Mo_valley_h229 N n) s0 v1
theorem Mo_valley_h229_s (N : Nat) (n : Nat) (s0 : zSt) (v1 : Int32) : Mo_valley_h229 N (n + 1) s0 v1 = Mo_valley_b229 N (Mo_valley_h229 N n) s0 v1 := rfl
def Mo_valley_b161 (N : Nat) (kh161 : zSt → Int32 → Option (Int32 × zSt)) (s0 : zSt) (v1 : Int32) : Option (Int32 × zSt) :=
  if 4 ≤ v1 then ((Mo_beastSet N s0).bind (fun z2 => Mo_valley_h229 N N (zpI (zpI (zpI (zpI (zpI (zpI (zpI (zpI s0 34 z2) 35 0) 36 0) 37 0) 38 0) 47 0) 58 0) 50 0) 0)) else (zck v1 4 (zck v1 4 (kh161 (zsA s0 19 (upd (zA s0 19) (Int32.toNatClampNeg v1) ((zA s0 14) (Int32.toNatClampNeg v1)))) (v1 + 1))))
def Mo_valley_h161 (N : Nat) : Nat → zSt → Int32 → Option (Int32 × zSt)
  | 0 => fun _ _ => none
  | n + 1 => fun s0 v1 => Mo_valley_b161 N (Mo_valley_h161 N n) s0 v1
theorem Mo_valley_h161_s (N : Nat) (n : Nat) (s0 : zSt) (v1 : Int32) : Mo_valley_h161 N (n + 1) s0 v1 = Mo_valley_b161 N (Mo_valley_h161 N n) s0 v1 := rfl
def Mo_valley_b153 (N : Nat) (kh52 : zSt → Int32 → Option (Int32 × zSt)) (s0 : zSt) (v1 : Int32) : Option (Int32 × zSt) :=
  kh52 s0 (v1 + 1)
def Mo_valley_b143 (N : Nat) (kh52 : zSt → Int32 → Option (Int32 × zSt)) (s0 : zSt) (v1 : Int32) : Option (Int32 × zSt) :=
  Mo_valley_b153 N kh52 (zpI s0 30 ((zI s0 30) + 1)) v1
def Mo_valley_b113 (N : Nat) (kh52 : zSt → Int32 → Option (Int32 × zSt)) (s0 : zSt) (v1 : Int32) : Option (Int32 × zSt) :=
  if (zI s0 29) ≤ v1 then (Mo_valley_b153 N kh52 s0 v1) else (zck v1 11 (if 0 ≤ ((zA s0 18) (Int32.toNatClampNeg v1)) then (zck (zI s0 30) 9 (Mo_valley_b143 N kh52 (zsA s0 21 (upd (zA s0 21) (Int32.toNatClampNeg (zI s0 30)) v1)) v1)) else (Mo_valley_b153 N kh52 s0 v1)))
def Mo_valley_b52 (N : Nat) (kh52 : zSt → Int32 → Option (Int32 × zSt)) (s0 : zSt) (v1 : Int32) : Option (Int32 × zSt) :=
  if 11 ≤ v1 then (Mo_valley_h161 N N s0 0) else (zck v1 11 (zck v1 11 (zck v1 11 (zck v1 11 (zck v1 11 (zck v1 11 (zck v1 11 (zck v1 11 (zck v1 11 (Mo_valley_b113 N kh52 (zsA (zsA (zsA (zsA (zsA s0 16 (upd (zA s0 16) (Int32.toNatClampNeg v1) ((zA s0 11) (Int32.toNatClampNeg v1)))) 17 (upd (zA s0 17) (Int32.toNatClampNeg v1) ((zA s0 12) (Int32.toNatClampNeg v1)))) 18 (upd (zA s0 18) (Int32.toNatClampNeg v1) ((zA s0 13) (Int32.toNatClampNeg v1)))) 20 (upd (zA s0 20) (Int32.toNatClampNeg v1) ((zA s0 15) (Int32.toNatClampNeg v1)))) 33 (upd (zA s0 33) (Int32.toNatClampNeg v1) 0)) v1))))))))))
def Mo_valley_h52 (N : Nat) : Nat → zSt → Int32 → Option (Int32 × zSt)
  | 0 => fun _ _ => none
  | n + 1 => fun s0 v1 => Mo_valley_b52 N (Mo_valley_h52 N n) s0 v1
theorem Mo_valley_h52_s (N : Nat) (n : Nat) (s0 : zSt) (v1 : Int32) : Mo_valley_h52 N (n + 1) s0 v1 = Mo_valley_b52 N (Mo_valley_h52 N n) s0 v1 := rfl
def Mo_valley_b0 (N : Nat) (s0 : zSt) : Option (Int32 × zSt) :=
  (Mo_readAll N s0).bind (fun z1 => if (zI z1 2) ≤ 0 then (Mo_valley_h52 N N (zpI (zpI (zpI (zpI (zpI (zmg [16,17,18,19,20,21,33,62] z1 s0) 28 (zI z1 22)) 29 (zI z1 23)) 31 (zI z1 25)) 32 (zI z1 26)) 30 0) 0) else (some ((-1), (zmg [16,17,18,19,20,21,33,62] z1 s0))))
def Mo_valley (N : Nat) (s0 : zSt) : Option (Int32 × zSt) := Mo_valley_b0 N s0
def Mo_fault_b0 (N : Nat) (s0 : zSt) (v1 : Int32) : Option (Int32) :=
  if v1 = 0 then (some (zI s0 2)) else (if v1 = 1 then (some (zI s0 3)) else (some ((-1))))
def Mo_fault (N : Nat) (s0 : zSt) (v1 : Int32) : Option (Int32) := Mo_fault_b0 N s0 v1
def Mo_isIn_b0 (N : Nat) (v0 : Int32) (v1 : Int32) (v2 : Int32) : Option (Int32) :=
  if v0 < v1 then (some (0)) else (if v2 < v0 then (some (0)) else (some (1)))
def Mo_isIn (N : Nat) (v0 : Int32) (v1 : Int32) (v2 : Int32) : Option (Int32) := Mo_isIn_b0 N v0 v1 v2
def Mo_isBell_b0 (N : Nat) (s0 : zSt) (v1 : Int32) : Option (Int32) :=
  (Mo_isIn N v1 0 ((zI s0 29) - 1)).bind (fun z1 => zcb z1 (some (z1)))
def Mo_isBell (N : Nat) (s0 : zSt) (v1 : Int32) : Option (Int32) := Mo_isBell_b0 N s0 v1
def Mo_isEar_b0 (N : Nat) (s0 : zSt) (v1 : Int32) : Option (Int32) :=
  (Mo_isIn N v1 0 ((zI s0 32) - 1)).bind (fun z1 => zcb z1 (some (z1)))
def Mo_isEar (N : Nat) (s0 : zSt) (v1 : Int32) : Option (Int32) := Mo_isEar_b0 N s0 v1
def Mo_modulo_b0 (N : Nat) (v0 : Int32) : Option (Int32) :=
  some (((v0 - v0 / 12 * 12) + 12) - ((v0 - v0 / 12 * 12) + 12) / 12 * 12)
def Mo_modulo (N : Nat) (v0 : Int32) : Option (Int32) := Mo_modulo_b0 N v0
def Mo_toneNow_b0 (N : Nat) (s0 : zSt) (v1 : Int32) : Option (Int32) :=
  zck v1 11 (zck v1 11 ((Mo_modulo N (((zA s0 16) (Int32.toNatClampNeg v1)) - (((zA s0 33) (Int32.toNatClampNeg v1)) * (zI s0 38)))).bind (fun z3 => some (z3))))
def Mo_toneNow (N : Nat) (s0 : zSt) (v1 : Int32) : Option (Int32) := Mo_toneNow_b0 N s0 v1
def Mo_loudAt_b29 (N : Nat) (s0 : zSt) (v4 : Int32) (t0 : Int32) (t1 : Int32) : Option (Int32) :=
  if 0 ≤ ((t0 - t1) - v4) then (some ((t0 - t1) - v4)) else (some (0))
def Mo_loudAt_b0 (N : Nat) (s0 : zSt) (v1 : Int32) (v2 : Int32) (v3 : Int32) (v4 : Int32) : Option (Int32) :=
  zck v2 4 (zck v1 11 (if 0 ≤ (((zA s0 19) (Int32.toNatClampNeg v2)) - v3) then (Mo_loudAt_b29 N s0 v4 ((zA s0 17) (Int32.toNatClampNeg v1)) (((zA s0 19) (Int32.toNatClampNeg v2)) - v3)) else (Mo_loudAt_b29 N s0 v4 ((zA s0 17) (Int32.toNatClampNeg v1)) (-(((zA s0 19) (Int32.toNatClampNeg v2)) - v3)))))
def Mo_loudAt (N : Nat) (s0 : zSt) (v1 : Int32) (v2 : Int32) (v3 : Int32) (v4 : Int32) : Option (Int32) := Mo_loudAt_b0 N s0 v1 v2 v3 v4
def Mo_bell_b0 (N : Nat) (s0 : zSt) (v1 : Int32) (v2 : Int32) : Option (Int32) :=
  (Mo_isBell N s0 v1).bind (fun z1 => if z1 = 0 then (some ((-2))) else (if v2 = 0 then ((Mo_toneNow N s0 v1).bind (fun z5 => some (z5))) else (if v2 = 1 then (zck v1 11 (some ((zA s0 17) (Int32.toNatClampNeg v1)))) else (if v2 = 2 then (zck v1 11 (some ((zA s0 18) (Int32.toNatClampNeg v1)))) else (if v2 = 3 then (zck v1 11 (some ((zA s0 33) (Int32.toNatClampNeg v1)))) else (if v2 = 4 then (some (((zI s0 34) >>> (v1 &&& 31)) &&& 1)) else (if v2 = 5 then (some (((zI s0 35) >>> (v1 &&& 31)) &&& 1)) else (some ((-2))))))))))
def Mo_bell (N : Nat) (s0 : zSt) (v1 : Int32) (v2 : Int32) : Option (Int32) := Mo_bell_b0 N s0 v1 v2
def Mo_heard_b69 (N : Nat) (kh5 : Int32 → Int32 → Option (Int32)) (s0 : zSt) (v1 : Int32) (v2 : Int32) (v4 : Int32) (t0 : Int32) (t1 : Int32) : Option (Int32) :=
  kh5 (t0 + t1) (v4 + 1)
def Mo_heard_b68 (N : Nat) (kh5 : Int32 → Int32 → Option (Int32)) (s0 : zSt) (v1 : Int32) (v2 : Int32) (v4 : Int32) (t0 : Int32) : Option (Int32) :=
  Mo_heard_b69 N kh5 s0 v1 v2 v4 t0 0
def Mo_heard_b5 (N : Nat) (kh5 : Int32 → Int32 → Option (Int32)) (s0 : zSt) (v1 : Int32) (v2 : Int32) (v3 : Int32) (v4 : Int32) : Option (Int32) :=
  if (zI s0 29) ≤ v4 then (some (v3)) else (if (((zI s0 34) >>> (v4 &&& 31)) &&& 1) = 1 then (if (((zI s0 35) >>> (v4 &&& 31)) &&& 1) = 0 then ((Mo_toneNow N s0 v4).bind (fun z4 => if z4 = v2 then ((Mo_loudAt N s0 v4 v1 (zI s0 36) (zI s0 37)).bind (fun z7 => Mo_heard_b69 N kh5 s0 v1 v2 v4 v3 z7)) else (Mo_heard_b68 N kh5 s0 v1 v2 v4 v3))) else (Mo_heard_b68 N kh5 s0 v1 v2 v4 v3)) else (Mo_heard_b68 N kh5 s0 v1 v2 v4 v3))
def Mo_heard_h5 (N : Nat) (s0 : zSt) (v1 : Int32) (v2 : Int32) : Nat → Int32 → Int32 → Option (Int32)
  | 0 => fun _ _ => none
  | n + 1 => fun v3 v4 => Mo_heard_b5 N (Mo_heard_h5 N s0 v1 v2 n) s0 v1 v2 v3 v4
theorem Mo_heard_h5_s (N : Nat) (s0 : zSt) (v1 : Int32) (v2 : Int32) (n : Nat) (v3 : Int32) (v4 : Int32) : Mo_heard_h5 N s0 v1 v2 (n + 1) v3 v4 = Mo_heard_b5 N (Mo_heard_h5 N s0 v1 v2 n) s0 v1 v2 v3 v4 := rfl
def Mo_heard_b0 (N : Nat) (s0 : zSt) (v1 : Int32) (v2 : Int32) : Option (Int32) :=
  Mo_heard_h5 N s0 v1 v2 N 0 0
def Mo_heard (N : Nat) (s0 : zSt) (v1 : Int32) (v2 : Int32) : Option (Int32) := Mo_heard_b0 N s0 v1 v2
def Mo_isTone_b0 (N : Nat) (v0 : Int32) : Option (Int32) :=
  (Mo_isIn N v0 0 11).bind (fun z1 => zcb z1 (some (z1)))
def Mo_isTone (N : Nat) (v0 : Int32) : Option (Int32) := Mo_isTone_b0 N v0
def Mo_hear_b0 (N : Nat) (s0 : zSt) (v1 : Int32) (v2 : Int32) : Option (Int32) :=
  (Mo_isEar N s0 v1).bind (fun z1 => if z1 = 0 then (some ((-1))) else ((Mo_isTone N v2).bind (fun z4 => if z4 = 0 then (some ((-1))) else ((Mo_heard N s0 v1 v2).bind (fun z7 => some (z7))))))
def Mo_hear (N : Nat) (s0 : zSt) (v1 : Int32) (v2 : Int32) : Option (Int32) := Mo_hear_b0 N s0 v1 v2
def Mo_chord_b37 (N : Nat) (kh14 : Int32 → Int32 → Option (Int32)) (s0 : zSt) (v1 : Int32) (v3 : Int32) (t0 : Int32) (t1 : Int32) : Option (Int32) :=
  kh14 (t0 ||| t1) (v3 + 1)
def Mo_chord_b14 (N : Nat) (kh14 : Int32 → Int32 → Option (Int32)) (s0 : zSt) (v1 : Int32) (v2 : Int32) (v3 : Int32) : Option (Int32) :=
  if 12 ≤ v3 then (some (v2)) else ((Mo_heard N s0 v1 v3).bind (fun z2 => if z2 ≤ 0 then (Mo_chord_b37 N kh14 s0 v1 v3 v2 0) else (Mo_chord_b37 N kh14 s0 v1 v3 v2 ((1 : Int32) <<< (v3 &&& 31)))))
def Mo_chord_h14 (N : Nat) (s0 : zSt) (v1 : Int32) : Nat → Int32 → Int32 → Option (Int32)
  | 0 => fun _ _ => none
  | n + 1 => fun v2 v3 => Mo_chord_b14 N (Mo_chord_h14 N s0 v1 n) s0 v1 v2 v3
theorem Mo_chord_h14_s (N : Nat) (s0 : zSt) (v1 : Int32) (n : Nat) (v2 : Int32) (v3 : Int32) : Mo_chord_h14 N s0 v1 (n + 1) v2 v3 = Mo_chord_b14 N (Mo_chord_h14 N s0 v1 n) s0 v1 v2 v3 := rfl
def Mo_chord_b0 (N : Nat) (s0 : zSt) (v1 : Int32) : Option (Int32) :=
  (Mo_isEar N s0 v1).bind (fun z1 => if z1 = 0 then (some ((-1))) else (Mo_chord_h14 N s0 v1 N 0 0))
def Mo_chord (N : Nat) (s0 : zSt) (v1 : Int32) : Option (Int32) := Mo_chord_b0 N s0 v1
def Mo_comes_b25 (N : Nat) (s0 : zSt) (v1 : Int32) (t0 : Int32) (t1 : Int32) : Option (Int32 × zSt) :=
  if t0 = t1 then (some (0, s0)) else (some (1, (zpI (zpI s0 34 ((zI s0 34) ^^^ ((1 : Int32) <<< (v1 &&& 31)))) 35 ((zI s0 35) &&& ((zI s0 34) ^^^ ((1 : Int32) <<< (v1 &&& 31)))))))
def Mo_comes_b0 (N : Nat) (s0 : zSt) (v1 : Int32) (v2 : Int32) : Option (Int32 × zSt) :=
  (Mo_isBell N s0 v1).bind (fun z1 => if z1 = 0 then (some (0, s0)) else (if v2 = 0 then (Mo_comes_b25 N s0 v1 (((zI s0 34) >>> (v1 &&& 31)) &&& 1) 0) else (Mo_comes_b25 N s0 v1 (((zI s0 34) >>> (v1 &&& 31)) &&& 1) 1)))
def Mo_comes (N : Nat) (s0 : zSt) (v1 : Int32) (v2 : Int32) : Option (Int32 × zSt) := Mo_comes_b0 N s0 v1 v2
def Mo_stand_b36 (N : Nat) (s0 : zSt) (v1 : Int32) (t0 : Int32) (t1 : Int32) : Option (Int32 × zSt) :=
  if t0 = t1 then (some (0, s0)) else (some (1, (zpI s0 35 ((zI s0 35) ^^^ ((1 : Int32) <<< (v1 &&& 31))))))
def Mo_stand_b0 (N : Nat) (s0 : zSt) (v1 : Int32) (v2 : Int32) : Option (Int32 × zSt) :=
  (Mo_isBell N s0 v1).bind (fun z1 => if z1 = 0 then (some (0, s0)) else (if (((zI s0 34) >>> (v1 &&& 31)) &&& 1) = 0 then (some (0, s0)) else (if v2 = 0 then (Mo_stand_b36 N s0 v1 (((zI s0 35) >>> (v1 &&& 31)) &&& 1) 0) else (Mo_stand_b36 N s0 v1 (((zI s0 35) >>> (v1 &&& 31)) &&& 1) 1))))
def Mo_stand (N : Nat) (s0 : zSt) (v1 : Int32) (v2 : Int32) : Option (Int32 × zSt) := Mo_stand_b0 N s0 v1 v2
def Mo_isPlace_b0 (N : Nat) (v0 : Int32) : Option (Int32) :=
  (Mo_isIn N v0 0 99).bind (fun z1 => zcb z1 (some (z1)))
def Mo_isPlace (N : Nat) (v0 : Int32) : Option (Int32) := Mo_isPlace_b0 N v0
def Mo_isWind_b0 (N : Nat) (v0 : Int32) : Option (Int32) :=
  (Mo_isIn N v0 0 20).bind (fun z1 => zcb z1 (some (z1)))
def Mo_isWind (N : Nat) (v0 : Int32) : Option (Int32) := Mo_isWind_b0 N v0
def Mo_walk_b0 (N : Nat) (s0 : zSt) (v1 : Int32) (v2 : Int32) : Option (Int32 × zSt) :=
  (Mo_isPlace N v1).bind (fun z1 => if z1 = 0 then (some ((-1), s0)) else ((Mo_isWind N v2).bind (fun z4 => if z4 = 0 then (some ((-1), s0)) else (some (zI s0 36, (zpI (zpI s0 36 v1) 37 v2))))))
def Mo_walk (N : Nat) (s0 : zSt) (v1 : Int32) (v2 : Int32) : Option (Int32 × zSt) := Mo_walk_b0 N s0 v1 v2
def Mo_crack_b0 (N : Nat) (s0 : zSt) (v1 : Int32) (v2 : Int32) : Option (Int32 × zSt) :=
  (Mo_isBell N s0 v1).bind (fun z1 => if z1 = 0 then (some ((-1), s0)) else ((Mo_isIn N v2 0 2).bind (fun z4 => if z4 = 0 then (some ((-1), s0)) else (zck v1 11 (zck v1 11 (some ((zA s0 33) (Int32.toNatClampNeg v1), (zsA s0 33 (upd (zA s0 33) (Int32.toNatClampNeg v1) v2)))))))))
def Mo_crack (N : Nat) (s0 : zSt) (v1 : Int32) (v2 : Int32) : Option (Int32 × zSt) := Mo_crack_b0 N s0 v1 v2
def Mo_years_b0 (N : Nat) (s0 : zSt) (v1 : Int32) : Option (Int32 × zSt) :=
  (Mo_isIn N v1 0 20).bind (fun z1 => if z1 = 0 then (some ((-1), s0)) else (if ((zI s0 38) + v1) ≤ 200 then (some (((zI s0 38) + v1), (zpI s0 38 ((zI s0 38) + v1)))) else (some ((-1), s0))))
def Mo_years (N : Nat) (s0 : zSt) (v1 : Int32) : Option (Int32 × zSt) := Mo_years_b0 N s0 v1
def Mo_isQuarter_b0 (N : Nat) (v0 : Int32) : Option (Int32) :=
  (Mo_isIn N v0 0 95).bind (fun z1 => zcb z1 (some (z1)))
def Mo_isQuarter (N : Nat) (v0 : Int32) : Option (Int32) := Mo_isQuarter_b0 N v0
def Mo_entry_b107 (N : Nat) (s0 : zSt) : Option (Int32 × zSt) :=
  some ((zI s0 47) - 1, s0)
def Mo_entry_b97 (N : Nat) (s0 : zSt) : Option (Int32 × zSt) :=
  Mo_entry_b107 N (zpI s0 47 ((zI s0 47) + 1))
def Mo_entry_b87 (N : Nat) (s0 : zSt) : Option (Int32 × zSt) :=
  zck (zI s0 47) 40 (Mo_entry_b97 N (zsA s0 46 (upd (zA s0 46) (Int32.toNatClampNeg (zI s0 47)) (-1))))
def Mo_entry_b0 (N : Nat) (s0 : zSt) (v1 : Int32) (v2 : Int32) (v3 : Int32) (v4 : Int32) (v5 : Int32) (v6 : Int32) : Option (Int32 × zSt) :=
  if (zI s0 47) = 40 then (some ((-1), s0)) else (zck (zI s0 47) 40 (zck (zI s0 47) 40 (zck (zI s0 47) 40 (zck (zI s0 47) 40 (zck (zI s0 47) 40 (zck (zI s0 47) 40 (zck (zI s0 47) 40 (Mo_entry_b87 N (zsA (zsA (zsA (zsA (zsA (zsA (zsA s0 39 (upd (zA s0 39) (Int32.toNatClampNeg (zI s0 47)) v1)) 40 (upd (zA s0 40) (Int32.toNatClampNeg (zI s0 47)) v2)) 41 (upd (zA s0 41) (Int32.toNatClampNeg (zI s0 47)) v3)) 42 (upd (zA s0 42) (Int32.toNatClampNeg (zI s0 47)) v4)) 43 (upd (zA s0 43) (Int32.toNatClampNeg (zI s0 47)) v5)) 44 (upd (zA s0 44) (Int32.toNatClampNeg (zI s0 47)) v6)) 45 (upd (zA s0 45) (Int32.toNatClampNeg (zI s0 47)) (zI s0 48)))))))))))
def Mo_entry (N : Nat) (s0 : zSt) (v1 : Int32) (v2 : Int32) (v3 : Int32) (v4 : Int32) (v5 : Int32) (v6 : Int32) : Option (Int32 × zSt) := Mo_entry_b0 N s0 v1 v2 v3 v4 v5 v6
def Mo_sound_b0 (N : Nat) (s0 : zSt) (v1 : Int32) (v2 : Int32) (v3 : Int32) (v4 : Int32) (v5 : Int32) : Option (Int32 × zSt) :=
  (Mo_isQuarter N v1).bind (fun z1 => if z1 = 0 then (some ((-1), s0)) else ((Mo_isEar N s0 v2).bind (fun z4 => if z4 = 0 then (some ((-1), s0)) else ((Mo_isTone N v3).bind (fun z7 => if z7 = 0 then (some ((-1), s0)) else ((Mo_isIn N v4 0 999).bind (fun z10 => if z10 = 0 then (some ((-1), s0)) else ((Mo_isIn N v5 v4 999).bind (fun z13 => if z13 = 0 then (some ((-1), s0)) else ((Mo_entry N s0 0 v1 v2 v3 v4 v5).bind (fun z16 => some (z16.1, z16.2))))))))))))
def Mo_sound (N : Nat) (s0 : zSt) (v1 : Int32) (v2 : Int32) (v3 : Int32) (v4 : Int32) (v5 : Int32) : Option (Int32 × zSt) := Mo_sound_b0 N s0 v1 v2 v3 v4 v5
def Mo_evening_b0 (N : Nat) (s0 : zSt) (v1 : Int32) (v2 : Int32) : Option (Int32 × zSt) :=
  (Mo_isIn N v1 0 20).bind (fun z1 => if z1 = 0 then (some ((-1), s0)) else ((Mo_isIn N v2 0 4095).bind (fun z4 => if z4 = 0 then (some ((-1), s0)) else ((Mo_entry N s0 1 v1 0 v2 0 0).bind (fun z7 => some (z7.1, z7.2))))))
def Mo_evening (N : Nat) (s0 : zSt) (v1 : Int32) (v2 : Int32) : Option (Int32 × zSt) := Mo_evening_b0 N s0 v1 v2
def Mo_note_b64 (N : Nat) (s0 : zSt) (v4 : Int32) (v5 : Int32) (t1 : Int32) (t2 : Int32) (t3 : Int32) (t4 : Int32) (t5 : Int32) : Option (Int32 × zSt) :=
  (Mo_entry N s0 t1 t2 t3 t4 t5 (v5 + v4)).bind (fun z1 => some (z1.1, (zmg [16,17,19,33] z1.2 s0)))
def Mo_note_b0 (N : Nat) (s0 : zSt) (v1 : Int32) (v2 : Int32) (v3 : Int32) (v4 : Int32) : Option (Int32 × zSt) :=
  (Mo_isQuarter N v1).bind (fun z1 => if z1 = 0 then (some ((-1), s0)) else ((Mo_isEar N s0 v2).bind (fun z4 => if z4 = 0 then (some ((-1), s0)) else ((Mo_isTone N v3).bind (fun z7 => if z7 = 0 then (some ((-1), s0)) else ((Mo_isIn N v4 0 99).bind (fun z10 => if z10 = 0 then (some ((-1), s0)) else ((Mo_heard N s0 v2 v3).bind (fun z13 => if v4 ≤ z13 then (Mo_note_b64 N s0 v4 z13 0 v1 v2 v3 (z13 - v4)) else (Mo_note_b64 N s0 v4 z13 0 v1 v2 v3 0))))))))))
def Mo_note (N : Nat) (s0 : zSt) (v1 : Int32) (v2 : Int32) (v3 : Int32) (v4 : Int32) : Option (Int32 × zSt) := Mo_note_b0 N s0 v1 v2 v3 v4
def Mo_untell_b0 (N : Nat) (s0 : zSt) (v1 : Int32) : Option (Int32 × zSt) :=
  (Mo_isIn N v1 0 ((zI s0 47) - 1)).bind (fun z1 => if z1 = 0 then (some (0, s0)) else (zck v1 40 (if ((zA s0 46) (Int32.toNatClampNeg v1)) < 0 then (zck v1 40 (some (1, (zsA s0 46 (upd (zA s0 46) (Int32.toNatClampNeg v1) (zI s0 48)))))) else (some (0, s0)))))
def Mo_untell (N : Nat) (s0 : zSt) (v1 : Int32) : Option (Int32 × zSt) := Mo_untell_b0 N s0 v1
def Mo_later_b0 (N : Nat) (s0 : zSt) (v1 : Int32) : Option (Int32 × zSt) :=
  if v1 < 0 then (some ((-1), s0)) else (if 1000 < v1 then (some ((-1), s0)) else (if ((zI s0 48) + v1) ≤ 100000 then (some (((zI s0 48) + v1), (zpI s0 48 ((zI s0 48) + v1)))) else (some ((-1), s0))))
def Mo_later (N : Nat) (s0 : zSt) (v1 : Int32) : Option (Int32 × zSt) := Mo_later_b0 N s0 v1
def Mo_counts_b39 (N : Nat) (s0 : zSt) : Option (Int32) :=
  some (1)
def Mo_counts_b0 (N : Nat) (s0 : zSt) (v1 : Int32) (v2 : Int32) (v3 : Int32) : Option (Int32) :=
  zck v1 40 (if ((zA s0 39) (Int32.toNatClampNeg v1)) = v2 then (zck v1 40 (if v3 < ((zA s0 45) (Int32.toNatClampNeg v1)) then (some (0)) else (zck v1 40 (if ((zA s0 46) (Int32.toNatClampNeg v1)) < 0 then (Mo_counts_b39 N s0) else (zck v1 40 (if ((zA s0 46) (Int32.toNatClampNeg v1)) ≤ v3 then (some (0)) else (Mo_counts_b39 N s0))))))) else (some (0)))
def Mo_counts (N : Nat) (s0 : zSt) (v1 : Int32) (v2 : Int32) (v3 : Int32) : Option (Int32) := Mo_counts_b0 N s0 v1 v2 v3
def Mo_loudOfSet_b53 (N : Nat) (kh6 : Int32 → Int32 → Option (Int32)) (s0 : zSt) (v1 : Int32) (v2 : Int32) (v3 : Int32) (v4 : Int32) (v5 : Int32) (v7 : Int32) (t0 : Int32) (t1 : Int32) : Option (Int32) :=
  kh6 (t0 + t1) (v7 + 1)
def Mo_loudOfSet_b52 (N : Nat) (kh6 : Int32 → Int32 → Option (Int32)) (s0 : zSt) (v1 : Int32) (v2 : Int32) (v3 : Int32) (v4 : Int32) (v5 : Int32) (v7 : Int32) (t0 : Int32) : Option (Int32) :=
  Mo_loudOfSet_b53 N kh6 s0 v1 v2 v3 v4 v5 v7 t0 0
def Mo_loudOfSet_b6 (N : Nat) (kh6 : Int32 → Int32 → Option (Int32)) (s0 : zSt) (v1 : Int32) (v2 : Int32) (v3 : Int32) (v4 : Int32) (v5 : Int32) (v6 : Int32) (v7 : Int32) : Option (Int32) :=
  if (zI s0 29) ≤ v7 then (some (v6)) else (if ((v1 >>> (v7 &&& 31)) &&& 1) = 1 then (zck v7 11 (if ((zA s0 16) (Int32.toNatClampNeg v7)) = v2 then ((Mo_loudAt N s0 v7 v3 v4 v5).bind (fun z5 => Mo_loudOfSet_b53 N kh6 s0 v1 v2 v3 v4 v5 v7 v6 z5)) else (Mo_loudOfSet_b52 N kh6 s0 v1 v2 v3 v4 v5 v7 v6))) else (Mo_loudOfSet_b52 N kh6 s0 v1 v2 v3 v4 v5 v7 v6))
def Mo_loudOfSet_h6 (N : Nat) (s0 : zSt) (v1 : Int32) (v2 : Int32) (v3 : Int32) (v4 : Int32) (v5 : Int32) : Nat → Int32 → Int32 → Option (Int32)
  | 0 => fun _ _ => none
  | n + 1 => fun v6 v7 => Mo_loudOfSet_b6 N (Mo_loudOfSet_h6 N s0 v1 v2 v3 v4 v5 n) s0 v1 v2 v3 v4 v5 v6 v7
theorem Mo_loudOfSet_h6_s (N : Nat) (s0 : zSt) (v1 : Int32) (v2 : Int32) (v3 : Int32) (v4 : Int32) (v5 : Int32) (n : Nat) (v6 : Int32) (v7 : Int32) : Mo_loudOfSet_h6 N s0 v1 v2 v3 v4 v5 (n + 1) v6 v7 = Mo_loudOfSet_b6 N (Mo_loudOfSet_h6 N s0 v1 v2 v3 v4 v5 n) s0 v1 v2 v3 v4 v5 v6 v7 := rfl
def Mo_loudOfSet_b0 (N : Nat) (s0 : zSt) (v1 : Int32) (v2 : Int32) (v3 : Int32) (v4 : Int32) (v5 : Int32) : Option (Int32) :=
  Mo_loudOfSet_h6 N s0 v1 v2 v3 v4 v5 N 0 0
def Mo_loudOfSet (N : Nat) (s0 : zSt) (v1 : Int32) (v2 : Int32) (v3 : Int32) (v4 : Int32) (v5 : Int32) : Option (Int32) := Mo_loudOfSet_b0 N s0 v1 v2 v3 v4 v5
def Mo_isSo_b0 (N : Nat) (s0 : zSt) (v1 : Int32) (v2 : Int32) (v3 : Int32) (v4 : Int32) : Option (Int32) :=
  zck v1 40 (zck v1 40 ((Mo_loudOfSet N s0 v2 ((zA s0 42) (Int32.toNatClampNeg v1)) ((zA s0 41) (Int32.toNatClampNeg v1)) v3 v4).bind (fun z3 => zck v1 40 (if z3 < ((zA s0 43) (Int32.toNatClampNeg v1)) then (some (0)) else (zck v1 40 (if ((zA s0 44) (Int32.toNatClampNeg v1)) < z3 then (some (0)) else (some (1))))))))
def Mo_isSo (N : Nat) (s0 : zSt) (v1 : Int32) (v2 : Int32) (v3 : Int32) (v4 : Int32) : Option (Int32) := Mo_isSo_b0 N s0 v1 v2 v3 v4
def Mo_areSo_b61 (N : Nat) (kh6 : Int32 → Int32 → Option (Int32)) (s0 : zSt) (v1 : Int32) (v2 : Int32) (v3 : Int32) (v4 : Int32) (v5 : Int32) (v7 : Int32) (t0 : Int32) : Option (Int32) :=
  kh6 t0 (v7 + 1)
def Mo_areSo_b56 (N : Nat) (kh6 : Int32 → Int32 → Option (Int32)) (s0 : zSt) (v1 : Int32) (v2 : Int32) (v3 : Int32) (v4 : Int32) (v5 : Int32) (v7 : Int32) : Option (Int32) :=
  Mo_areSo_b61 N kh6 s0 v1 v2 v3 v4 v5 v7 1
def Mo_areSo_b6 (N : Nat) (kh6 : Int32 → Int32 → Option (Int32)) (s0 : zSt) (v1 : Int32) (v2 : Int32) (v3 : Int32) (v4 : Int32) (v5 : Int32) (v6 : Int32) (v7 : Int32) : Option (Int32) :=
  if (zI s0 47) ≤ v7 then (zcb v6 (some (v6))) else (if v6 = 0 then (zcb v6 (some (v6))) else ((Mo_counts N s0 v7 0 v5).bind (fun z5 => if z5 = 0 then (Mo_areSo_b56 N kh6 s0 v1 v2 v3 v4 v5 v7) else (zck v7 40 (if ((zA s0 40) (Int32.toNatClampNeg v7)) = v3 then ((Mo_isSo N s0 v7 v1 v2 v4).bind (fun z10 => if z10 = 0 then (Mo_areSo_b61 N kh6 s0 v1 v2 v3 v4 v5 v7 0) else (Mo_areSo_b56 N kh6 s0 v1 v2 v3 v4 v5 v7))) else (Mo_areSo_b56 N kh6 s0 v1 v2 v3 v4 v5 v7))))))
def Mo_areSo_h6 (N : Nat) (s0 : zSt) (v1 : Int32) (v2 : Int32) (v3 : Int32) (v4 : Int32) (v5 : Int32) : Nat → Int32 → Int32 → Option (Int32)
  | 0 => fun _ _ => none
  | n + 1 => fun v6 v7 => Mo_areSo_b6 N (Mo_areSo_h6 N s0 v1 v2 v3 v4 v5 n) s0 v1 v2 v3 v4 v5 v6 v7
theorem Mo_areSo_h6_s (N : Nat) (s0 : zSt) (v1 : Int32) (v2 : Int32) (v3 : Int32) (v4 : Int32) (v5 : Int32) (n : Nat) (v6 : Int32) (v7 : Int32) : Mo_areSo_h6 N s0 v1 v2 v3 v4 v5 (n + 1) v6 v7 = Mo_areSo_b6 N (Mo_areSo_h6 N s0 v1 v2 v3 v4 v5 n) s0 v1 v2 v3 v4 v5 v6 v7 := rfl
def Mo_areSo_b0 (N : Nat) (s0 : zSt) (v1 : Int32) (v2 : Int32) (v3 : Int32) (v4 : Int32) (v5 : Int32) : Option (Int32) :=
  Mo_areSo_h6 N s0 v1 v2 v3 v4 v5 N 1 0
def Mo_areSo (N : Nat) (s0 : zSt) (v1 : Int32) (v2 : Int32) (v3 : Int32) (v4 : Int32) (v5 : Int32) : Option (Int32) := Mo_areSo_b0 N s0 v1 v2 v3 v4 v5
def Mo_sets_b212 (N : Nat) (kh171 : zSt → Int32 → Int32 → Int32 → Int32 → Option (Int32 × zSt)) (s0 : zSt) (v3 : Int32) (v5 : Int32) (v6 : Int32) (v7 : Int32) (v8 : Int32) (v9 : Int32) (v10 : Int32) (v11 : Int32) : Option (Int32 × zSt) :=
  kh171 s0 v8 v9 v10 (v11 + 1)
def Mo_sets_b206 (N : Nat) (kh171 : zSt → Int32 → Int32 → Int32 → Int32 → Option (Int32 × zSt)) (s0 : zSt) (v3 : Int32) (v5 : Int32) (v6 : Int32) (v7 : Int32) (v8 : Int32) (v11 : Int32) (t0 : Int32) : Option (Int32 × zSt) :=
  Mo_sets_b212 N kh171 s0 v3 v5 v6 v7 v8 t0 v11 v11
def Mo_sets_b171 (N : Nat) (kh171 : zSt → Int32 → Int32 → Int32 → Int32 → Option (Int32 × zSt)) (s0 : zSt) (v3 : Int32) (v5 : Int32) (v6 : Int32) (v7 : Int32) (v8 : Int32) (v9 : Int32) (v10 : Int32) (v11 : Int32) : Option (Int32 × zSt) :=
  if 100 ≤ v11 then (if v3 = 0 then (some (v5, s0)) else (if v3 = 1 then (if v5 = 0 then (some (0, s0)) else (some (v6, s0))) else (if v3 = 2 then (if v5 = 0 then (some (0, s0)) else (some ((((1 : Int32) <<< ((zI s0 29) &&& 31)) - 1) &&& (v7 ^^^ (-1)), s0))) else (if v3 = 3 then (some (v8, s0)) else (if v3 = 4 then (some (v9, s0)) else (some (v10, s0))))))) else (zck v11 100 (if ((zA s0 49) (Int32.toNatClampNeg v11)) = 0 then (Mo_sets_b212 N kh171 s0 v3 v5 v6 v7 v8 v9 v10 v11) else (if 0 ≤ v9 then (Mo_sets_b206 N kh171 s0 v3 v5 v6 v7 (v8 + 1) v11 v9) else (Mo_sets_b206 N kh171 s0 v3 v5 v6 v7 (v8 + 1) v11 v11))))
def Mo_sets_h171 (N : Nat) (v3 : Int32) (v5 : Int32) (v6 : Int32) (v7 : Int32) : Nat → zSt → Int32 → Int32 → Int32 → Int32 → Option (Int32 × zSt)
  | 0 => fun _ _ _ _ _ => none
  | n + 1 => fun s0 v8 v9 v10 v11 => Mo_sets_b171 N (Mo_sets_h171 N v3 v5 v6 v7 n) s0 v3 v5 v6 v7 v8 v9 v10 v11
theorem Mo_sets_h171_s (N : Nat) (v3 : Int32) (v5 : Int32) (v6 : Int32) (v7 : Int32) (n : Nat) (s0 : zSt) (v8 : Int32) (v9 : Int32) (v10 : Int32) (v11 : Int32) : Mo_sets_h171 N v3 v5 v6 v7 (n + 1) s0 v8 v9 v10 v11 = Mo_sets_b171 N (Mo_sets_h171 N v3 v5 v6 v7 n) s0 v3 v5 v6 v7 v8 v9 v10 v11 := rfl
def Mo_sets_b153 (N : Nat) (kh69 : zSt → Int32 → Int32 → Int32 → Int32 → Option (Int32 × zSt)) (s0 : zSt) (v1 : Int32) (v2 : Int32) (v3 : Int32) (v4 : Int32) (v5 : Int32) (v6 : Int32) (v7 : Int32) (v8 : Int32) : Option (Int32 × zSt) :=
  kh69 s0 v5 v6 v7 (v8 + 1)
def Mo_sets_b122 (N : Nat) (kh69 : zSt → Int32 → Int32 → Int32 → Int32 → Option (Int32 × zSt)) (kh86 : zSt → Int32 → Int32 → Option (Int32 × zSt)) (s0 : zSt) (v1 : Int32) (v2 : Int32) (v3 : Int32) (v4 : Int32) (v5 : Int32) (v6 : Int32) (v7 : Int32) (v8 : Int32) (v9 : Int32) (v10 : Int32) : Option (Int32 × zSt) :=
  kh86 s0 v9 (v10 + 1)
def Mo_sets_b86 (N : Nat) (kh69 : zSt → Int32 → Int32 → Int32 → Int32 → Option (Int32 × zSt)) (kh86 : zSt → Int32 → Int32 → Option (Int32 × zSt)) (s0 : zSt) (v1 : Int32) (v2 : Int32) (v3 : Int32) (v4 : Int32) (v5 : Int32) (v6 : Int32) (v7 : Int32) (v8 : Int32) (v9 : Int32) (v10 : Int32) : Option (Int32 × zSt) :=
  if 100 ≤ v10 then (if v9 = 0 then (Mo_sets_b153 N kh69 s0 v1 v2 v3 v4 v5 v6 v7 v8) else (Mo_sets_b153 N kh69 s0 v1 v2 v3 v4 (v5 + 1) (v6 &&& v8) (v7 ||| v8) v8)) else ((Mo_areSo N s0 v8 v10 v1 v2 v4).bind (fun z3 => if z3 = 0 then (Mo_sets_b122 N kh69 kh86 s0 v1 v2 v3 v4 v5 v6 v7 v8 v9 v10) else (zck v10 100 (Mo_sets_b122 N kh69 kh86 (zsA s0 49 (upd (zA s0 49) (Int32.toNatClampNeg v10) 1)) v1 v2 v3 v4 v5 v6 v7 v8 1 v10))))
def Mo_sets_h86 (N : Nat) (kh69 : zSt → Int32 → Int32 → Int32 → Int32 → Option (Int32 × zSt)) (v1 : Int32) (v2 : Int32) (v3 : Int32) (v4 : Int32) (v5 : Int32) (v6 : Int32) (v7 : Int32) (v8 : Int32) : Nat → zSt → Int32 → Int32 → Option (Int32 × zSt)
  | 0 => fun _ _ _ => none
  | n + 1 => fun s0 v9 v10 => Mo_sets_b86 N kh69 (Mo_sets_h86 N kh69 v1 v2 v3 v4 v5 v6 v7 v8 n) s0 v1 v2 v3 v4 v5 v6 v7 v8 v9 v10
theorem Mo_sets_h86_s (N : Nat) (kh69 : zSt → Int32 → Int32 → Int32 → Int32 → Option (Int32 × zSt)) (v1 : Int32) (v2 : Int32) (v3 : Int32) (v4 : Int32) (v5 : Int32) (v6 : Int32) (v7 : Int32) (v8 : Int32) (n : Nat) (s0 : zSt) (v9 : Int32) (v10 : Int32) : Mo_sets_h86 N kh69 v1 v2 v3 v4 v5 v6 v7 v8 (n + 1) s0 v9 v10 = Mo_sets_b86 N kh69 (Mo_sets_h86 N kh69 v1 v2 v3 v4 v5 v6 v7 v8 n) s0 v1 v2 v3 v4 v5 v6 v7 v8 v9 v10 := rfl
def Mo_sets_b69 (N : Nat) (kh69 : zSt → Int32 → Int32 → Int32 → Int32 → Option (Int32 × zSt)) (s0 : zSt) (v1 : Int32) (v2 : Int32) (v3 : Int32) (v4 : Int32) (v5 : Int32) (v6 : Int32) (v7 : Int32) (v8 : Int32) : Option (Int32 × zSt) :=
  if ((1 : Int32) <<< ((zI s0 29) &&& 31)) ≤ v8 then (Mo_sets_h171 N v3 v5 v6 v7 N s0 0 (-1) (-1) 0) else (Mo_sets_h86 N kh69 v1 v2 v3 v4 v5 v6 v7 v8 N s0 0 0)
def Mo_sets_h69 (N : Nat) (v1 : Int32) (v2 : Int32) (v3 : Int32) (v4 : Int32) : Nat → zSt → Int32 → Int32 → Int32 → Int32 → Option (Int32 × zSt)
  | 0 => fun _ _ _ _ _ => none
  | n + 1 => fun s0 v5 v6 v7 v8 => Mo_sets_b69 N (Mo_sets_h69 N v1 v2 v3 v4 n) s0 v1 v2 v3 v4 v5 v6 v7 v8
theorem Mo_sets_h69_s (N : Nat) (v1 : Int32) (v2 : Int32) (v3 : Int32) (v4 : Int32) (n : Nat) (s0 : zSt) (v5 : Int32) (v6 : Int32) (v7 : Int32) (v8 : Int32) : Mo_sets_h69 N v1 v2 v3 v4 (n + 1) s0 v5 v6 v7 v8 = Mo_sets_b69 N (Mo_sets_h69 N v1 v2 v3 v4 n) s0 v1 v2 v3 v4 v5 v6 v7 v8 := rfl
def Mo_sets_b45 (N : Nat) (kh45 : zSt → Int32 → Option (Int32 × zSt)) (s0 : zSt) (v1 : Int32) (v2 : Int32) (v3 : Int32) (v4 : Int32) (v5 : Int32) (v6 : Int32) (v7 : Int32) (v8 : Int32) : Option (Int32 × zSt) :=
  if 100 ≤ v8 then (Mo_sets_h69 N v1 v2 v3 v4 N s0 v5 v6 v7 0) else (zck v8 100 (kh45 (zsA s0 49 (upd (zA s0 49) (Int32.toNatClampNeg v8) 0)) (v8 + 1)))
def Mo_sets_h45 (N : Nat) (v1 : Int32) (v2 : Int32) (v3 : Int32) (v4 : Int32) (v5 : Int32) (v6 : Int32) (v7 : Int32) : Nat → zSt → Int32 → Option (Int32 × zSt)
  | 0 => fun _ _ => none
  | n + 1 => fun s0 v8 => Mo_sets_b45 N (Mo_sets_h45 N v1 v2 v3 v4 v5 v6 v7 n) s0 v1 v2 v3 v4 v5 v6 v7 v8
theorem Mo_sets_h45_s (N : Nat) (v1 : Int32) (v2 : Int32) (v3 : Int32) (v4 : Int32) (v5 : Int32) (v6 : Int32) (v7 : Int32) (n : Nat) (s0 : zSt) (v8 : Int32) : Mo_sets_h45 N v1 v2 v3 v4 v5 v6 v7 (n + 1) s0 v8 = Mo_sets_b45 N (Mo_sets_h45 N v1 v2 v3 v4 v5 v6 v7 n) s0 v1 v2 v3 v4 v5 v6 v7 v8 := rfl
def Mo_sets_b0 (N : Nat) (s0 : zSt) (v1 : Int32) (v2 : Int32) (v3 : Int32) (v4 : Int32) : Option (Int32 × zSt) :=
  (Mo_isQuarter N v1).bind (fun z1 => if z1 = 0 then (some ((-2), s0)) else ((Mo_isWind N v2).bind (fun z4 => if z4 = 0 then (some ((-2), s0)) else ((Mo_isIn N v3 0 5).bind (fun z7 => if z7 = 0 then (some ((-2), s0)) else (Mo_sets_h45 N v1 v2 v3 v4 0 (((1 : Int32) <<< ((zI s0 29) &&& 31)) - 1) 0 N s0 0))))))
def Mo_sets (N : Nat) (s0 : zSt) (v1 : Int32) (v2 : Int32) (v3 : Int32) (v4 : Int32) : Option (Int32 × zSt) := Mo_sets_b0 N s0 v1 v2 v3 v4
def Mo_spring_b0 (N : Nat) (s0 : zSt) (v1 : Int32) (v2 : Int32) (v3 : Int32) (v4 : Int32) (v5 : Int32) : Option (Int32 × zSt) :=
  (Mo_isEar N s0 v1).bind (fun z1 => if z1 = 0 then (some (0, s0)) else ((Mo_isEar N s0 v3).bind (fun z4 => if z4 = 0 then (some (0, s0)) else (if v1 = v3 then (some (0, s0)) else ((Mo_isPlace N v2).bind (fun z8 => if z8 = 0 then (some (0, s0)) else ((Mo_isPlace N v4).bind (fun z11 => if z11 = 0 then (some (0, s0)) else ((Mo_isQuarter N v5).bind (fun z14 => if z14 = 0 then (some (0, s0)) else (some (1, (zpI (zpI (zpI (zpI (zpI (zpI s0 50 1) 51 v1) 52 v2) 53 v3) 54 v4) 55 v5)))))))))))))
def Mo_spring (N : Nat) (s0 : zSt) (v1 : Int32) (v2 : Int32) (v3 : Int32) (v4 : Int32) (v5 : Int32) : Option (Int32 × zSt) := Mo_spring_b0 N s0 v1 v2 v3 v4 v5
def Mo_isParted_b118 (N : Nat) (kh16 : Int32 → Int32 → Option (Int32)) (s0 : zSt) (v1 : Int32) (v2 : Int32) (v3 : Int32) (v4 : Int32) (v5 : Int32) (v6 : Int32) : Option (Int32) :=
  kh16 v5 (v6 + 1)
def Mo_isParted_b16 (N : Nat) (kh16 : Int32 → Int32 → Option (Int32)) (s0 : zSt) (v1 : Int32) (v2 : Int32) (v3 : Int32) (v4 : Int32) (v5 : Int32) (v6 : Int32) : Option (Int32) :=
  if (zI s0 47) ≤ v6 then (zcb v5 (some (v5))) else (if v5 = 0 then (zcb v5 (some (v5))) else ((Mo_counts N s0 v6 0 v3).bind (fun z5 => if z5 = 0 then (Mo_isParted_b118 N kh16 s0 v1 v2 v3 v4 v5 v6) else (zck v6 40 (if ((zA s0 40) (Int32.toNatClampNeg v6)) = (zI s0 55) then (zck v6 40 (if ((zA s0 41) (Int32.toNatClampNeg v6)) = (zI s0 51) then ((Mo_isSo N s0 v6 v1 (zI s0 52) v2).bind (fun z16 => Mo_isParted_b118 N kh16 s0 v1 v2 v3 v4 z16 v6)) else (zck v6 40 (if ((zA s0 41) (Int32.toNatClampNeg v6)) = (zI s0 53) then ((Mo_isSo N s0 v6 v4 (zI s0 54) v2).bind (fun z14 => Mo_isParted_b118 N kh16 s0 v1 v2 v3 v4 z14 v6)) else (Mo_isParted_b118 N kh16 s0 v1 v2 v3 v4 v5 v6))))) else (Mo_isParted_b118 N kh16 s0 v1 v2 v3 v4 v5 v6))))))
def Mo_isParted_h16 (N : Nat) (s0 : zSt) (v1 : Int32) (v2 : Int32) (v3 : Int32) (v4 : Int32) : Nat → Int32 → Int32 → Option (Int32)
  | 0 => fun _ _ => none
  | n + 1 => fun v5 v6 => Mo_isParted_b16 N (Mo_isParted_h16 N s0 v1 v2 v3 v4 n) s0 v1 v2 v3 v4 v5 v6
theorem Mo_isParted_h16_s (N : Nat) (s0 : zSt) (v1 : Int32) (v2 : Int32) (v3 : Int32) (v4 : Int32) (n : Nat) (v5 : Int32) (v6 : Int32) : Mo_isParted_h16 N s0 v1 v2 v3 v4 (n + 1) v5 v6 = Mo_isParted_b16 N (Mo_isParted_h16 N s0 v1 v2 v3 v4 n) s0 v1 v2 v3 v4 v5 v6 := rfl
def Mo_isParted_b0 (N : Nat) (s0 : zSt) (v1 : Int32) (v2 : Int32) (v3 : Int32) : Option (Int32) :=
  (Mo_beastSet N s0).bind (fun z1 => Mo_isParted_h16 N s0 v1 v2 v3 (z1 &&& (v1 ^^^ (-1))) N 1 0)
def Mo_isParted (N : Nat) (s0 : zSt) (v1 : Int32) (v2 : Int32) (v3 : Int32) : Option (Int32) := Mo_isParted_b0 N s0 v1 v2 v3
def Mo_mixedOf_b94 (N : Nat) (kh4 : Int32 → Int32 → Option (Int32)) (s0 : zSt) (v1 : Int32) (v3 : Int32) (t0 : Int32) (t1 : Int32) : Option (Int32) :=
  kh4 (t0 + t1) (v3 + 1)
def Mo_mixedOf_b73 (N : Nat) (kh4 : Int32 → Int32 → Option (Int32)) (kh21 : Int32 → Int32 → Int32 → Option (Int32)) (s0 : zSt) (v1 : Int32) (v2 : Int32) (v3 : Int32) (v4 : Int32) (v5 : Int32) (v6 : Int32) : Option (Int32) :=
  kh21 v4 v5 (v6 + 1)
def Mo_mixedOf_b21 (N : Nat) (kh4 : Int32 → Int32 → Option (Int32)) (kh21 : Int32 → Int32 → Int32 → Option (Int32)) (s0 : zSt) (v1 : Int32) (v2 : Int32) (v3 : Int32) (v4 : Int32) (v5 : Int32) (v6 : Int32) : Option (Int32) :=
  if (zI s0 30) ≤ v6 then (if v5 ≤ v4 then (Mo_mixedOf_b94 N kh4 s0 v1 v3 v2 v5) else (Mo_mixedOf_b94 N kh4 s0 v1 v3 v2 v4)) else (zck v6 9 (zck ((zA s0 21) (Int32.toNatClampNeg v6)) 11 (if ((zA s0 18) (Int32.toNatClampNeg ((zA s0 21) (Int32.toNatClampNeg v6)))) = v3 then (zck v6 9 (if ((v1 >>> (((zA s0 21) (Int32.toNatClampNeg v6)) &&& 31)) &&& 1) = 1 then (Mo_mixedOf_b73 N kh4 kh21 s0 v1 v2 v3 (v4 + 1) v5 v6) else (Mo_mixedOf_b73 N kh4 kh21 s0 v1 v2 v3 v4 (v5 + 1) v6))) else (Mo_mixedOf_b73 N kh4 kh21 s0 v1 v2 v3 v4 v5 v6))))
def Mo_mixedOf_h21 (N : Nat) (kh4 : Int32 → Int32 → Option (Int32)) (s0 : zSt) (v1 : Int32) (v2 : Int32) (v3 : Int32) : Nat → Int32 → Int32 → Int32 → Option (Int32)
  | 0 => fun _ _ _ => none
  | n + 1 => fun v4 v5 v6 => Mo_mixedOf_b21 N kh4 (Mo_mixedOf_h21 N kh4 s0 v1 v2 v3 n) s0 v1 v2 v3 v4 v5 v6
theorem Mo_mixedOf_h21_s (N : Nat) (kh4 : Int32 → Int32 → Option (Int32)) (s0 : zSt) (v1 : Int32) (v2 : Int32) (v3 : Int32) (n : Nat) (v4 : Int32) (v5 : Int32) (v6 : Int32) : Mo_mixedOf_h21 N kh4 s0 v1 v2 v3 (n + 1) v4 v5 v6 = Mo_mixedOf_b21 N kh4 (Mo_mixedOf_h21 N kh4 s0 v1 v2 v3 n) s0 v1 v2 v3 v4 v5 v6 := rfl
def Mo_mixedOf_b4 (N : Nat) (kh4 : Int32 → Int32 → Option (Int32)) (s0 : zSt) (v1 : Int32) (v2 : Int32) (v3 : Int32) : Option (Int32) :=
  if (zI s0 28) ≤ v3 then (some (v2)) else (Mo_mixedOf_h21 N kh4 s0 v1 v2 v3 N 0 0 0)
def Mo_mixedOf_h4 (N : Nat) (s0 : zSt) (v1 : Int32) : Nat → Int32 → Int32 → Option (Int32)
  | 0 => fun _ _ => none
  | n + 1 => fun v2 v3 => Mo_mixedOf_b4 N (Mo_mixedOf_h4 N s0 v1 n) s0 v1 v2 v3
theorem Mo_mixedOf_h4_s (N : Nat) (s0 : zSt) (v1 : Int32) (n : Nat) (v2 : Int32) (v3 : Int32) : Mo_mixedOf_h4 N s0 v1 (n + 1) v2 v3 = Mo_mixedOf_b4 N (Mo_mixedOf_h4 N s0 v1 n) s0 v1 v2 v3 := rfl
def Mo_mixedOf_b0 (N : Nat) (s0 : zSt) (v1 : Int32) : Option (Int32) :=
  Mo_mixedOf_h4 N s0 v1 N 0 0
def Mo_mixedOf (N : Nat) (s0 : zSt) (v1 : Int32) : Option (Int32) := Mo_mixedOf_b0 N s0 v1
def Mo_parted_b130 (N : Nat) (kh51 : Int32 → Int32 → Int32 → Int32 → Int32 → Int32 → Option (Int32)) (s0 : zSt) (v1 : Int32) (v2 : Int32) (v3 : Int32) (v4 : Int32) (v5 : Int32) (v6 : Int32) (v7 : Int32) (v8 : Int32) (v9 : Int32) (v10 : Int32) : Option (Int32) :=
  kh51 v5 v6 v7 v8 v9 (v10 + 1)
def Mo_parted_b122 (N : Nat) (kh51 : Int32 → Int32 → Int32 → Int32 → Int32 → Int32 → Option (Int32)) (s0 : zSt) (v1 : Int32) (v2 : Int32) (v3 : Int32) (v4 : Int32) (v5 : Int32) (v6 : Int32) (v7 : Int32) (v10 : Int32) (v11 : Int32) : Option (Int32) :=
  Mo_parted_b130 N kh51 s0 v1 v2 v3 v4 v5 v6 v7 v10 v11 v10
def Mo_parted_b51 (N : Nat) (kh51 : Int32 → Int32 → Int32 → Int32 → Int32 → Int32 → Option (Int32)) (s0 : zSt) (v1 : Int32) (v2 : Int32) (v3 : Int32) (v4 : Int32) (v5 : Int32) (v6 : Int32) (v7 : Int32) (v8 : Int32) (v9 : Int32) (v10 : Int32) : Option (Int32) :=
  if v4 < v10 then (if v2 = 0 then (some (v5)) else (if v2 = 1 then (if v5 = 0 then (some (0)) else (some (v6))) else (if v2 = 2 then (if v5 = 0 then (some (0)) else (some (v4 &&& (v7 ^^^ (-1))))) else (if v2 = 3 then (if 0 ≤ v8 then (some (v9)) else (some ((-1)))) else (some (v8)))))) else (if (v10 &&& (v4 ^^^ (-1))) = 0 then ((Mo_isParted N s0 v10 v1 v3).bind (fun z7 => if z7 = 0 then (Mo_parted_b130 N kh51 s0 v1 v2 v3 v4 v5 v6 v7 v8 v9 v10) else ((Mo_mixedOf N s0 v10).bind (fun z10 => if v8 < 0 then (Mo_parted_b122 N kh51 s0 v1 v2 v3 v4 (v5 + 1) (v6 &&& v10) (v7 ||| v10) v10 z10) else (if z10 < v9 then (Mo_parted_b122 N kh51 s0 v1 v2 v3 v4 (v5 + 1) (v6 &&& v10) (v7 ||| v10) v10 z10) else (Mo_parted_b130 N kh51 s0 v1 v2 v3 v4 (v5 + 1) (v6 &&& v10) (v7 ||| v10) v8 v9 v10)))))) else (Mo_parted_b130 N kh51 s0 v1 v2 v3 v4 v5 v6 v7 v8 v9 v10))
def Mo_parted_h51 (N : Nat) (s0 : zSt) (v1 : Int32) (v2 : Int32) (v3 : Int32) (v4 : Int32) : Nat → Int32 → Int32 → Int32 → Int32 → Int32 → Int32 → Option (Int32)
  | 0 => fun _ _ _ _ _ _ => none
  | n + 1 => fun v5 v6 v7 v8 v9 v10 => Mo_parted_b51 N (Mo_parted_h51 N s0 v1 v2 v3 v4 n) s0 v1 v2 v3 v4 v5 v6 v7 v8 v9 v10
theorem Mo_parted_h51_s (N : Nat) (s0 : zSt) (v1 : Int32) (v2 : Int32) (v3 : Int32) (v4 : Int32) (n : Nat) (v5 : Int32) (v6 : Int32) (v7 : Int32) (v8 : Int32) (v9 : Int32) (v10 : Int32) : Mo_parted_h51 N s0 v1 v2 v3 v4 (n + 1) v5 v6 v7 v8 v9 v10 = Mo_parted_b51 N (Mo_parted_h51 N s0 v1 v2 v3 v4 n) s0 v1 v2 v3 v4 v5 v6 v7 v8 v9 v10 := rfl
def Mo_parted_b0 (N : Nat) (s0 : zSt) (v1 : Int32) (v2 : Int32) (v3 : Int32) : Option (Int32) :=
  (Mo_isWind N v1).bind (fun z1 => if z1 = 0 then (some ((-2))) else ((Mo_isIn N v2 0 4).bind (fun z4 => if z4 = 0 then (some ((-2))) else (if (zI s0 50) = 0 then (some ((-2))) else ((Mo_beastSet N s0).bind (fun z8 => Mo_parted_h51 N s0 v1 v2 v3 z8 N 0 z8 0 (-1) 0 0))))))
def Mo_parted (N : Nat) (s0 : zSt) (v1 : Int32) (v2 : Int32) (v3 : Int32) : Option (Int32) := Mo_parted_b0 N s0 v1 v2 v3
def Mo_couldCome_b72 (N : Nat) (kh6 : Int32 → Int32 → Option (Int32)) (s0 : zSt) (v1 : Int32) (v2 : Int32) (v3 : Int32) (v4 : Int32) (v5 : Int32) (v7 : Int32) (t0 : Int32) : Option (Int32) :=
  kh6 t0 (v7 + 1)
def Mo_couldCome_b67 (N : Nat) (kh6 : Int32 → Int32 → Option (Int32)) (s0 : zSt) (v1 : Int32) (v2 : Int32) (v3 : Int32) (v4 : Int32) (v5 : Int32) (v7 : Int32) : Option (Int32) :=
  Mo_couldCome_b72 N kh6 s0 v1 v2 v3 v4 v5 v7 1
def Mo_couldCome_b57 (N : Nat) (kh6 : Int32 → Int32 → Option (Int32)) (s0 : zSt) (v1 : Int32) (v2 : Int32) (v3 : Int32) (v4 : Int32) (v5 : Int32) (v7 : Int32) (t1 : Int32) (t2 : Int32) (t3 : Int32) : Option (Int32) :=
  (Mo_isSo N s0 t1 (t2 ||| t3) v3 v4).bind (fun z1 => if z1 = 0 then (Mo_couldCome_b72 N kh6 s0 v1 v2 v3 v4 v5 v7 0) else (Mo_couldCome_b67 N kh6 s0 v1 v2 v3 v4 v5 v7))
def Mo_couldCome_b6 (N : Nat) (kh6 : Int32 → Int32 → Option (Int32)) (s0 : zSt) (v1 : Int32) (v2 : Int32) (v3 : Int32) (v4 : Int32) (v5 : Int32) (v6 : Int32) (v7 : Int32) : Option (Int32) :=
  if (zI s0 47) ≤ v7 then (zcb v6 (some (v6))) else (if v6 = 0 then (zcb v6 (some (v6))) else ((Mo_counts N s0 v7 0 v5).bind (fun z5 => if z5 = 0 then (Mo_couldCome_b67 N kh6 s0 v1 v2 v3 v4 v5 v7) else ((Mo_beastSet N s0).bind (fun z8 => zck v7 40 (if ((zA s0 40) (Int32.toNatClampNeg v7)) < v2 then (Mo_couldCome_b57 N kh6 s0 v1 v2 v3 v4 v5 v7 v7 z8 0) else (Mo_couldCome_b57 N kh6 s0 v1 v2 v3 v4 v5 v7 v7 z8 ((1 : Int32) <<< (v1 &&& 31)))))))))
def Mo_couldCome_h6 (N : Nat) (s0 : zSt) (v1 : Int32) (v2 : Int32) (v3 : Int32) (v4 : Int32) (v5 : Int32) : Nat → Int32 → Int32 → Option (Int32)
  | 0 => fun _ _ => none
  | n + 1 => fun v6 v7 => Mo_couldCome_b6 N (Mo_couldCome_h6 N s0 v1 v2 v3 v4 v5 n) s0 v1 v2 v3 v4 v5 v6 v7
theorem Mo_couldCome_h6_s (N : Nat) (s0 : zSt) (v1 : Int32) (v2 : Int32) (v3 : Int32) (v4 : Int32) (v5 : Int32) (n : Nat) (v6 : Int32) (v7 : Int32) : Mo_couldCome_h6 N s0 v1 v2 v3 v4 v5 (n + 1) v6 v7 = Mo_couldCome_b6 N (Mo_couldCome_h6 N s0 v1 v2 v3 v4 v5 n) s0 v1 v2 v3 v4 v5 v6 v7 := rfl
def Mo_couldCome_b0 (N : Nat) (s0 : zSt) (v1 : Int32) (v2 : Int32) (v3 : Int32) (v4 : Int32) (v5 : Int32) : Option (Int32) :=
  Mo_couldCome_h6 N s0 v1 v2 v3 v4 v5 N 1 0
def Mo_couldCome (N : Nat) (s0 : zSt) (v1 : Int32) (v2 : Int32) (v3 : Int32) (v4 : Int32) (v5 : Int32) : Option (Int32) := Mo_couldCome_b0 N s0 v1 v2 v3 v4 v5
def Mo_came_b101 (N : Nat) (kh56 : Int32 → Int32 → Int32 → Int32 → Option (Int32)) (s0 : zSt) (v1 : Int32) (v2 : Int32) (v3 : Int32) (v4 : Int32) (v5 : Int32) (v6 : Int32) (v7 : Int32) (v8 : Int32) (v9 : Int32) : Option (Int32) :=
  kh56 v6 v7 v8 (v9 + 1)
def Mo_came_b95 (N : Nat) (kh56 : Int32 → Int32 → Int32 → Int32 → Option (Int32)) (s0 : zSt) (v1 : Int32) (v2 : Int32) (v3 : Int32) (v4 : Int32) (v5 : Int32) (v6 : Int32) (v9 : Int32) (t0 : Int32) : Option (Int32) :=
  Mo_came_b101 N kh56 s0 v1 v2 v3 v4 v5 v6 t0 v9 v9
def Mo_came_b56 (N : Nat) (kh56 : Int32 → Int32 → Int32 → Int32 → Option (Int32)) (s0 : zSt) (v1 : Int32) (v2 : Int32) (v3 : Int32) (v4 : Int32) (v5 : Int32) (v6 : Int32) (v7 : Int32) (v8 : Int32) (v9 : Int32) : Option (Int32) :=
  if 96 < v9 then (if v4 = 0 then (some (v6)) else (if v4 = 1 then (some (v7)) else (some (v8)))) else ((Mo_couldCome N s0 v1 v9 v2 v3 v5).bind (fun z4 => if z4 = 0 then (Mo_came_b101 N kh56 s0 v1 v2 v3 v4 v5 v6 v7 v8 v9) else (if 0 ≤ v7 then (Mo_came_b95 N kh56 s0 v1 v2 v3 v4 v5 (v6 + 1) v9 v7) else (Mo_came_b95 N kh56 s0 v1 v2 v3 v4 v5 (v6 + 1) v9 v9))))
def Mo_came_h56 (N : Nat) (s0 : zSt) (v1 : Int32) (v2 : Int32) (v3 : Int32) (v4 : Int32) (v5 : Int32) : Nat → Int32 → Int32 → Int32 → Int32 → Option (Int32)
  | 0 => fun _ _ _ _ => none
  | n + 1 => fun v6 v7 v8 v9 => Mo_came_b56 N (Mo_came_h56 N s0 v1 v2 v3 v4 v5 n) s0 v1 v2 v3 v4 v5 v6 v7 v8 v9
theorem Mo_came_h56_s (N : Nat) (s0 : zSt) (v1 : Int32) (v2 : Int32) (v3 : Int32) (v4 : Int32) (v5 : Int32) (n : Nat) (v6 : Int32) (v7 : Int32) (v8 : Int32) (v9 : Int32) : Mo_came_h56 N s0 v1 v2 v3 v4 v5 (n + 1) v6 v7 v8 v9 = Mo_came_b56 N (Mo_came_h56 N s0 v1 v2 v3 v4 v5 n) s0 v1 v2 v3 v4 v5 v6 v7 v8 v9 := rfl
def Mo_came_b0 (N : Nat) (s0 : zSt) (v1 : Int32) (v2 : Int32) (v3 : Int32) (v4 : Int32) (v5 : Int32) : Option (Int32) :=
  (Mo_isBell N s0 v1).bind (fun z1 => if z1 = 0 then (some ((-2))) else (zck v1 11 (if 0 ≤ ((zA s0 18) (Int32.toNatClampNeg v1)) then (some ((-2))) else ((Mo_isPlace N v2).bind (fun z6 => if z6 = 0 then (some ((-2))) else ((Mo_isWind N v3).bind (fun z9 => if z9 = 0 then (some ((-2))) else ((Mo_isIn N v4 0 2).bind (fun z12 => if z12 = 0 then (some ((-2))) else (Mo_came_h56 N s0 v1 v2 v3 v4 v5 N 0 (-1) (-1) 0))))))))))
def Mo_came (N : Nat) (s0 : zSt) (v1 : Int32) (v2 : Int32) (v3 : Int32) (v4 : Int32) (v5 : Int32) : Option (Int32) := Mo_came_b0 N s0 v1 v2 v3 v4 v5
def Mo_tonesIn_b4 (N : Nat) (kh4 : Int32 → Int32 → Option (Int32)) (s0 : zSt) (v1 : Int32) (v2 : Int32) (v3 : Int32) : Option (Int32) :=
  if (zI s0 30) ≤ v3 then (some (v2)) else (zck v3 9 (zck ((zA s0 21) (Int32.toNatClampNeg v3)) 11 (zck v3 9 ((Mo_modulo N (((zA s0 16) (Int32.toNatClampNeg ((zA s0 21) (Int32.toNatClampNeg v3)))) - (((zA s0 56) (Int32.toNatClampNeg v3)) * v1))).bind (fun z5 => kh4 (v2 ||| ((1 : Int32) <<< (z5 &&& 31))) (v3 + 1))))))
def Mo_tonesIn_h4 (N : Nat) (s0 : zSt) (v1 : Int32) : Nat → Int32 → Int32 → Option (Int32)
  | 0 => fun _ _ => none
  | n + 1 => fun v2 v3 => Mo_tonesIn_b4 N (Mo_tonesIn_h4 N s0 v1 n) s0 v1 v2 v3
theorem Mo_tonesIn_h4_s (N : Nat) (s0 : zSt) (v1 : Int32) (n : Nat) (v2 : Int32) (v3 : Int32) : Mo_tonesIn_h4 N s0 v1 (n + 1) v2 v3 = Mo_tonesIn_b4 N (Mo_tonesIn_h4 N s0 v1 n) s0 v1 v2 v3 := rfl
def Mo_tonesIn_b0 (N : Nat) (s0 : zSt) (v1 : Int32) : Option (Int32) :=
  Mo_tonesIn_h4 N s0 v1 N 0 0
def Mo_tonesIn (N : Nat) (s0 : zSt) (v1 : Int32) : Option (Int32) := Mo_tonesIn_b0 N s0 v1
def Mo_areEvenings_b52 (N : Nat) (kh5 : Int32 → Int32 → Option (Int32)) (s0 : zSt) (v1 : Int32) (v2 : Int32) (v4 : Int32) (t0 : Int32) : Option (Int32) :=
  kh5 t0 (v4 + 1)
def Mo_areEvenings_b47 (N : Nat) (kh5 : Int32 → Int32 → Option (Int32)) (s0 : zSt) (v1 : Int32) (v2 : Int32) (v4 : Int32) : Option (Int32) :=
  Mo_areEvenings_b52 N kh5 s0 v1 v2 v4 1
def Mo_areEvenings_b5 (N : Nat) (kh5 : Int32 → Int32 → Option (Int32)) (s0 : zSt) (v1 : Int32) (v2 : Int32) (v3 : Int32) (v4 : Int32) : Option (Int32) :=
  if v2 < v4 then (zcb v3 (some (v3))) else (if v3 = 0 then (zcb v3 (some (v3))) else ((Mo_counts N s0 v4 1 v1).bind (fun z5 => if z5 = 0 then (Mo_areEvenings_b47 N kh5 s0 v1 v2 v4) else (zck v4 40 ((Mo_tonesIn N s0 ((zA s0 40) (Int32.toNatClampNeg v4))).bind (fun z9 => zck v4 40 (if z9 = ((zA s0 42) (Int32.toNatClampNeg v4)) then (Mo_areEvenings_b47 N kh5 s0 v1 v2 v4) else (Mo_areEvenings_b52 N kh5 s0 v1 v2 v4 0))))))))
def Mo_areEvenings_h5 (N : Nat) (s0 : zSt) (v1 : Int32) (v2 : Int32) : Nat → Int32 → Int32 → Option (Int32)
  | 0 => fun _ _ => none
  | n + 1 => fun v3 v4 => Mo_areEvenings_b5 N (Mo_areEvenings_h5 N s0 v1 v2 n) s0 v1 v2 v3 v4
theorem Mo_areEvenings_h5_s (N : Nat) (s0 : zSt) (v1 : Int32) (v2 : Int32) (n : Nat) (v3 : Int32) (v4 : Int32) : Mo_areEvenings_h5 N s0 v1 v2 (n + 1) v3 v4 = Mo_areEvenings_b5 N (Mo_areEvenings_h5 N s0 v1 v2 n) s0 v1 v2 v3 v4 := rfl
def Mo_areEvenings_b0 (N : Nat) (s0 : zSt) (v1 : Int32) (v2 : Int32) : Option (Int32) :=
  Mo_areEvenings_h5 N s0 v1 v2 N 1 0
def Mo_areEvenings (N : Nat) (s0 : zSt) (v1 : Int32) (v2 : Int32) : Option (Int32) := Mo_areEvenings_b0 N s0 v1 v2
def Mo_nextTried_b7 (N : Nat) (kh7 : zSt → Int32 → Option (Int32 × zSt)) (s0 : zSt) (v1 : Int32) : Option (Int32 × zSt) :=
  if v1 < 0 then (some (0, s0)) else (zck v1 9 (if 2 ≤ ((zA s0 56) (Int32.toNatClampNeg v1)) then (zck v1 9 (kh7 (zsA s0 56 (upd (zA s0 56) (Int32.toNatClampNeg v1) 0)) (v1 + (-1)))) else (zck v1 9 (zck v1 9 (some (1, (zsA s0 56 (upd (zA s0 56) (Int32.toNatClampNeg v1) (((zA s0 56) (Int32.toNatClampNeg v1)) + 1)))))))))
def Mo_nextTried_h7 (N : Nat) : Nat → zSt → Int32 → Option (Int32 × zSt)
  | 0 => fun _ _ => none
  | n + 1 => fun s0 v1 => Mo_nextTried_b7 N (Mo_nextTried_h7 N n) s0 v1
theorem Mo_nextTried_h7_s (N : Nat) (n : Nat) (s0 : zSt) (v1 : Int32) : Mo_nextTried_h7 N (n + 1) s0 v1 = Mo_nextTried_b7 N (Mo_nextTried_h7 N n) s0 v1 := rfl
def Mo_nextTried_b0 (N : Nat) (s0 : zSt) : Option (Int32 × zSt) :=
  Mo_nextTried_h7 N N s0 ((zI s0 30) - 1)
def Mo_nextTried (N : Nat) (s0 : zSt) : Option (Int32 × zSt) := Mo_nextTried_b0 N s0
def Mo_clearTried_b2 (N : Nat) (kh2 : zSt → Int32 → Option (zSt)) (s0 : zSt) (v1 : Int32) : Option (zSt) :=
  if 9 ≤ v1 then (some (s0)) else (zck v1 9 (kh2 (zsA s0 56 (upd (zA s0 56) (Int32.toNatClampNeg v1) 0)) (v1 + 1)))
def Mo_clearTried_h2 (N : Nat) : Nat → zSt → Int32 → Option (zSt)
  | 0 => fun _ _ => none
  | n + 1 => fun s0 v1 => Mo_clearTried_b2 N (Mo_clearTried_h2 N n) s0 v1
theorem Mo_clearTried_h2_s (N : Nat) (n : Nat) (s0 : zSt) (v1 : Int32) : Mo_clearTried_h2 N (n + 1) s0 v1 = Mo_clearTried_b2 N (Mo_clearTried_h2 N n) s0 v1 := rfl
def Mo_clearTried_b0 (N : Nat) (s0 : zSt) : Option (zSt) :=
  Mo_clearTried_h2 N N s0 0
def Mo_clearTried (N : Nat) (s0 : zSt) : Option (zSt) := Mo_clearTried_b0 N s0
def Mo_triedSum_b4 (N : Nat) (kh4 : Int32 → Int32 → Option (Int32)) (s0 : zSt) (v1 : Int32) (v2 : Int32) : Option (Int32) :=
  if (zI s0 30) ≤ v2 then (some (v1)) else (zck v2 9 (kh4 (v1 + ((zA s0 56) (Int32.toNatClampNeg v2))) (v2 + 1)))
def Mo_triedSum_h4 (N : Nat) (s0 : zSt) : Nat → Int32 → Int32 → Option (Int32)
  | 0 => fun _ _ => none
  | n + 1 => fun v1 v2 => Mo_triedSum_b4 N (Mo_triedSum_h4 N s0 n) s0 v1 v2
theorem Mo_triedSum_h4_s (N : Nat) (s0 : zSt) (n : Nat) (v1 : Int32) (v2 : Int32) : Mo_triedSum_h4 N s0 (n + 1) v1 v2 = Mo_triedSum_b4 N (Mo_triedSum_h4 N s0 n) s0 v1 v2 := rfl
def Mo_triedSum_b0 (N : Nat) (s0 : zSt) : Option (Int32) :=
  Mo_triedSum_h4 N s0 N 0 0
def Mo_triedSum (N : Nat) (s0 : zSt) : Option (Int32) := Mo_triedSum_b0 N s0
def Mo_putDown_b2 (N : Nat) (kh2 : zSt → Int32 → Option (zSt)) (s0 : zSt) (v1 : Int32) : Option (zSt) :=
  if 9 ≤ v1 then (some ((zpI s0 58 (zI s0 30)))) else (zck v1 9 (zck v1 9 (kh2 (zsA s0 57 (upd (zA s0 57) (Int32.toNatClampNeg v1) ((zA s0 56) (Int32.toNatClampNeg v1)))) (v1 + 1))))
def Mo_putDown_h2 (N : Nat) : Nat → zSt → Int32 → Option (zSt)
  | 0 => fun _ _ => none
  | n + 1 => fun s0 v1 => Mo_putDown_b2 N (Mo_putDown_h2 N n) s0 v1
theorem Mo_putDown_h2_s (N : Nat) (n : Nat) (s0 : zSt) (v1 : Int32) : Mo_putDown_h2 N (n + 1) s0 v1 = Mo_putDown_b2 N (Mo_putDown_h2 N n) s0 v1 := rfl
def Mo_putDown_b0 (N : Nat) (s0 : zSt) : Option (zSt) :=
  Mo_putDown_h2 N N s0 0
def Mo_putDown (N : Nat) (s0 : zSt) : Option (zSt) := Mo_putDown_b0 N s0
def Mo_cracked_b64 (N : Nat) (kh25 : zSt → Int32 → Int32 → Option (Int32 × zSt)) (s0 : zSt) (v1 : Int32) (v2 : Int32) : Option (Int32 × zSt) :=
  (Mo_nextTried N s0).bind (fun z1 => kh25 (zmg [16,21,39,40,42,45,46,57] z1.2 s0) v2 z1.1)
def Mo_cracked_b55 (N : Nat) (kh25 : zSt → Int32 → Int32 → Option (Int32 × zSt)) (s0 : zSt) (v1 : Int32) : Option (Int32 × zSt) :=
  (Mo_triedSum N s0).bind (fun z1 => (Mo_putDown N s0).bind (fun z3 => Mo_cracked_b64 N kh25 (zmg [16,21,39,40,42,45,46] z3 s0) v1 z1))
def Mo_cracked_b25 (N : Nat) (kh25 : zSt → Int32 → Int32 → Option (Int32 × zSt)) (s0 : zSt) (v1 : Int32) (v2 : Int32) (v3 : Int32) : Option (Int32 × zSt) :=
  if v3 = 0 then (some (v2, s0)) else ((Mo_areEvenings N s0 v1 ((zI s0 47) - 1)).bind (fun z2 => if z2 = 0 then (Mo_cracked_b64 N kh25 s0 v1 v2) else (if v2 < 0 then (Mo_cracked_b55 N kh25 s0 v1) else ((Mo_triedSum N s0).bind (fun z6 => if v2 ≤ z6 then (Mo_cracked_b64 N kh25 s0 v1 v2) else (Mo_cracked_b55 N kh25 s0 v1))))))
def Mo_cracked_h25 (N : Nat) (v1 : Int32) : Nat → zSt → Int32 → Int32 → Option (Int32 × zSt)
  | 0 => fun _ _ _ => none
  | n + 1 => fun s0 v2 v3 => Mo_cracked_b25 N (Mo_cracked_h25 N v1 n) s0 v1 v2 v3
theorem Mo_cracked_h25_s (N : Nat) (v1 : Int32) (n : Nat) (s0 : zSt) (v2 : Int32) (v3 : Int32) : Mo_cracked_h25 N v1 (n + 1) s0 v2 v3 = Mo_cracked_b25 N (Mo_cracked_h25 N v1 n) s0 v1 v2 v3 := rfl
def Mo_cracked_b0 (N : Nat) (s0 : zSt) (v1 : Int32) : Option (Int32 × zSt) :=
  if (zI s0 30) ≤ 8 then ((Mo_clearTried N (zpI s0 58 0)).bind (fun z2 => Mo_cracked_h25 N v1 N (zmg [16,21,39,40,42,45,46,57] z2 (zpI s0 58 0)) (-1) 1)) else (some ((-2), (zpI s0 58 0)))
def Mo_cracked (N : Nat) (s0 : zSt) (v1 : Int32) : Option (Int32 × zSt) := Mo_cracked_b0 N s0 v1
def Mo_canBe_b6 (N : Nat) (kh6 : zSt → Int32 → Option (Int32 × zSt)) (s0 : zSt) (v1 : Int32) (v2 : Int32) (v3 : Int32) : Option (Int32 × zSt) :=
  if v3 = 0 then (some (0, s0)) else ((Mo_areEvenings N s0 v1 v2).bind (fun z2 => if z2 = 0 then ((Mo_nextTried N s0).bind (fun z5 => kh6 (zmg [16,21,39,40,42,45,46] z5.2 s0) z5.1)) else (some (1, s0))))
def Mo_canBe_h6 (N : Nat) (v1 : Int32) (v2 : Int32) : Nat → zSt → Int32 → Option (Int32 × zSt)
  | 0 => fun _ _ => none
  | n + 1 => fun s0 v3 => Mo_canBe_b6 N (Mo_canBe_h6 N v1 v2 n) s0 v1 v2 v3
theorem Mo_canBe_h6_s (N : Nat) (v1 : Int32) (v2 : Int32) (n : Nat) (s0 : zSt) (v3 : Int32) : Mo_canBe_h6 N v1 v2 (n + 1) s0 v3 = Mo_canBe_b6 N (Mo_canBe_h6 N v1 v2 n) s0 v1 v2 v3 := rfl
def Mo_canBe_b0 (N : Nat) (s0 : zSt) (v1 : Int32) (v2 : Int32) : Option (Int32 × zSt) :=
  (Mo_clearTried N s0).bind (fun z1 => Mo_canBe_h6 N v1 v2 N (zmg [16,21,39,40,42,45,46] z1 s0) 1)
def Mo_canBe (N : Nat) (s0 : zSt) (v1 : Int32) (v2 : Int32) : Option (Int32 × zSt) := Mo_canBe_b0 N s0 v1 v2
def Mo_first_b43 (N : Nat) (kh14 : zSt → Int32 → Option (Int32 × zSt)) (s0 : zSt) (v1 : Int32) (v2 : Int32) : Option (Int32 × zSt) :=
  kh14 s0 (v2 + 1)
def Mo_first_b14 (N : Nat) (kh14 : zSt → Int32 → Option (Int32 × zSt)) (s0 : zSt) (v1 : Int32) (v2 : Int32) : Option (Int32 × zSt) :=
  if (zI s0 47) ≤ v2 then (some ((-1), s0)) else ((Mo_counts N s0 v2 1 v1).bind (fun z2 => if z2 = 0 then (Mo_first_b43 N kh14 s0 v1 v2) else ((Mo_canBe N s0 v1 v2).bind (fun z5 => if z5.1 = 0 then (some (v2, z5.2)) else (Mo_first_b43 N kh14 z5.2 v1 v2)))))
def Mo_first_h14 (N : Nat) (v1 : Int32) : Nat → zSt → Int32 → Option (Int32 × zSt)
  | 0 => fun _ _ => none
  | n + 1 => fun s0 v2 => Mo_first_b14 N (Mo_first_h14 N v1 n) s0 v1 v2
theorem Mo_first_h14_s (N : Nat) (v1 : Int32) (n : Nat) (s0 : zSt) (v2 : Int32) : Mo_first_h14 N v1 (n + 1) s0 v2 = Mo_first_b14 N (Mo_first_h14 N v1 n) s0 v1 v2 := rfl
def Mo_first_b0 (N : Nat) (s0 : zSt) (v1 : Int32) : Option (Int32 × zSt) :=
  if (zI s0 30) ≤ 8 then (Mo_first_h14 N v1 N s0 0) else (some ((-2), s0))
def Mo_first (N : Nat) (s0 : zSt) (v1 : Int32) : Option (Int32 × zSt) := Mo_first_b0 N s0 v1
def Mo_areAlike_b105 (N : Nat) (kh79 : zSt → Int32 → Int32 → Option (Int32 × zSt)) (s0 : zSt) (v4 : Int32) (t0 : Int32) : Option (Int32 × zSt) :=
  kh79 s0 t0 (v4 + 1)
def Mo_areAlike_b104 (N : Nat) (kh79 : zSt → Int32 → Int32 → Option (Int32 × zSt)) (s0 : zSt) (v4 : Int32) : Option (Int32 × zSt) :=
  Mo_areAlike_b105 N kh79 s0 v4 0
def Mo_areAlike_b79 (N : Nat) (kh79 : zSt → Int32 → Int32 → Option (Int32 × zSt)) (s0 : zSt) (v3 : Int32) (v4 : Int32) : Option (Int32 × zSt) :=
  if 12 ≤ v4 then (zcb v3 (some (v3, s0))) else (if v3 = 0 then (Mo_areAlike_b104 N kh79 s0 v4) else (zck v4 12 (if ((zA s0 59) (Int32.toNatClampNeg v4)) = 0 then (Mo_areAlike_b105 N kh79 s0 v4 1) else (Mo_areAlike_b104 N kh79 s0 v4))))
def Mo_areAlike_h79 (N : Nat) : Nat → zSt → Int32 → Int32 → Option (Int32 × zSt)
  | 0 => fun _ _ _ => none
  | n + 1 => fun s0 v3 v4 => Mo_areAlike_b79 N (Mo_areAlike_h79 N n) s0 v3 v4
theorem Mo_areAlike_h79_s (N : Nat) (n : Nat) (s0 : zSt) (v3 : Int32) (v4 : Int32) : Mo_areAlike_h79 N (n + 1) s0 v3 v4 = Mo_areAlike_b79 N (Mo_areAlike_h79 N n) s0 v3 v4 := rfl
def Mo_areAlike_b23 (N : Nat) (kh23 : zSt → Int32 → Option (Int32 × zSt)) (s0 : zSt) (v1 : Int32) (v2 : Int32) (v3 : Int32) : Option (Int32 × zSt) :=
  if (zI s0 30) ≤ v3 then (Mo_areAlike_h79 N N s0 1 0) else (zck v3 9 (zck ((zA s0 56) (Int32.toNatClampNeg v3)) 12 (zck v3 9 (zck ((zA s0 21) (Int32.toNatClampNeg v3)) 11 (zck ((zA s0 56) (Int32.toNatClampNeg v3)) 12 (kh23 (zsA s0 59 (upd (zA s0 59) (Int32.toNatClampNeg ((zA s0 56) (Int32.toNatClampNeg v3))) (((zA s0 59) (Int32.toNatClampNeg ((zA s0 56) (Int32.toNatClampNeg v3)))) + ((((v1 >>> (v3 &&& 31)) &&& 1) - ((v2 >>> (v3 &&& 31)) &&& 1)) * ((zA s0 17) (Int32.toNatClampNeg ((zA s0 21) (Int32.toNatClampNeg v3)))))))) (v3 + 1)))))))
def Mo_areAlike_h23 (N : Nat) (v1 : Int32) (v2 : Int32) : Nat → zSt → Int32 → Option (Int32 × zSt)
  | 0 => fun _ _ => none
  | n + 1 => fun s0 v3 => Mo_areAlike_b23 N (Mo_areAlike_h23 N v1 v2 n) s0 v1 v2 v3
theorem Mo_areAlike_h23_s (N : Nat) (v1 : Int32) (v2 : Int32) (n : Nat) (s0 : zSt) (v3 : Int32) : Mo_areAlike_h23 N v1 v2 (n + 1) s0 v3 = Mo_areAlike_b23 N (Mo_areAlike_h23 N v1 v2 n) s0 v1 v2 v3 := rfl
def Mo_areAlike_b2 (N : Nat) (kh2 : zSt → Int32 → Option (Int32 × zSt)) (s0 : zSt) (v1 : Int32) (v2 : Int32) (v3 : Int32) : Option (Int32 × zSt) :=
  if 12 ≤ v3 then (Mo_areAlike_h23 N v1 v2 N s0 0) else (zck v3 12 (kh2 (zsA s0 59 (upd (zA s0 59) (Int32.toNatClampNeg v3) 0)) (v3 + 1)))
def Mo_areAlike_h2 (N : Nat) (v1 : Int32) (v2 : Int32) : Nat → zSt → Int32 → Option (Int32 × zSt)
  | 0 => fun _ _ => none
  | n + 1 => fun s0 v3 => Mo_areAlike_b2 N (Mo_areAlike_h2 N v1 v2 n) s0 v1 v2 v3
theorem Mo_areAlike_h2_s (N : Nat) (v1 : Int32) (v2 : Int32) (n : Nat) (s0 : zSt) (v3 : Int32) : Mo_areAlike_h2 N v1 v2 (n + 1) s0 v3 = Mo_areAlike_b2 N (Mo_areAlike_h2 N v1 v2 n) s0 v1 v2 v3 := rfl
def Mo_areAlike_b0 (N : Nat) (s0 : zSt) (v1 : Int32) (v2 : Int32) : Option (Int32 × zSt) :=
  Mo_areAlike_h2 N v1 v2 N s0 0
def Mo_areAlike (N : Nat) (s0 : zSt) (v1 : Int32) (v2 : Int32) : Option (Int32 × zSt) := Mo_areAlike_b0 N s0 v1 v2
def Mo_ones_b4 (N : Nat) (kh4 : Int32 → Int32 → Option (Int32)) (v0 : Int32) (v1 : Int32) (v2 : Int32) : Option (Int32) :=
  if 9 ≤ v2 then (some (v1)) else (kh4 (v1 + ((v0 >>> (v2 &&& 31)) &&& 1)) (v2 + 1))
def Mo_ones_h4 (N : Nat) (v0 : Int32) : Nat → Int32 → Int32 → Option (Int32)
  | 0 => fun _ _ => none
  | n + 1 => fun v1 v2 => Mo_ones_b4 N (Mo_ones_h4 N v0 n) v0 v1 v2
theorem Mo_ones_h4_s (N : Nat) (v0 : Int32) (n : Nat) (v1 : Int32) (v2 : Int32) : Mo_ones_h4 N v0 (n + 1) v1 v2 = Mo_ones_b4 N (Mo_ones_h4 N v0 n) v0 v1 v2 := rfl
def Mo_ones_b0 (N : Nat) (v0 : Int32) : Option (Int32) :=
  Mo_ones_h4 N v0 N 0 0
def Mo_ones (N : Nat) (v0 : Int32) : Option (Int32) := Mo_ones_b0 N v0
def Mo_layFew_b48 (N : Nat) (kh7 : zSt → Int32 → Option (zSt)) (s0 : zSt) (v1 : Int32) (v2 : Int32) : Option (zSt) :=
  kh7 s0 (v2 + 1)
def Mo_layFew_b7 (N : Nat) (kh7 : zSt → Int32 → Option (zSt)) (s0 : zSt) (v1 : Int32) (v2 : Int32) : Option (zSt) :=
  if ((1 : Int32) <<< ((zI s0 30) &&& 31)) ≤ v2 then (some (s0)) else ((Mo_ones N v2).bind (fun z2 => if z2 ≤ v1 then (zck (zI s0 61) 64 (Mo_layFew_b48 N kh7 (zpI (zsA s0 60 (upd (zA s0 60) (Int32.toNatClampNeg (zI s0 61)) v2)) 61 ((zI s0 61) + 1)) v1 v2)) else (Mo_layFew_b48 N kh7 s0 v1 v2)))
def Mo_layFew_h7 (N : Nat) (v1 : Int32) : Nat → zSt → Int32 → Option (zSt)
  | 0 => fun _ _ => none
  | n + 1 => fun s0 v2 => Mo_layFew_b7 N (Mo_layFew_h7 N v1 n) s0 v1 v2
theorem Mo_layFew_h7_s (N : Nat) (v1 : Int32) (n : Nat) (s0 : zSt) (v2 : Int32) : Mo_layFew_h7 N v1 (n + 1) s0 v2 = Mo_layFew_b7 N (Mo_layFew_h7 N v1 n) s0 v1 v2 := rfl
def Mo_layFew_b0 (N : Nat) (s0 : zSt) (v1 : Int32) : Option (zSt) :=
  Mo_layFew_h7 N v1 N (zpI s0 61 0) 0
def Mo_layFew (N : Nat) (s0 : zSt) (v1 : Int32) : Option (zSt) := Mo_layFew_b0 N s0 v1
def Mo_areKnown_b12 (N : Nat) (kh2 : zSt → Int32 → Option (Int32 × zSt)) (kh12 : zSt → Int32 → Option (Int32 × zSt)) (s0 : zSt) (v1 : Int32) (v2 : Int32) : Option (Int32 × zSt) :=
  if v1 ≤ v2 then (kh2 s0 (v1 + 1)) else (zck v1 64 (zck v2 64 ((Mo_areAlike N s0 ((zA s0 60) (Int32.toNatClampNeg v1)) ((zA s0 60) (Int32.toNatClampNeg v2))).bind (fun z4 => if z4.1 = 0 then (kh12 (zmg [60] z4.2 s0) (v2 + 1)) else (some (0, (zmg [60] z4.2 s0)))))))
def Mo_areKnown_h12 (N : Nat) (kh2 : zSt → Int32 → Option (Int32 × zSt)) (v1 : Int32) : Nat → zSt → Int32 → Option (Int32 × zSt)
  | 0 => fun _ _ => none
  | n + 1 => fun s0 v2 => Mo_areKnown_b12 N kh2 (Mo_areKnown_h12 N kh2 v1 n) s0 v1 v2
theorem Mo_areKnown_h12_s (N : Nat) (kh2 : zSt → Int32 → Option (Int32 × zSt)) (v1 : Int32) (n : Nat) (s0 : zSt) (v2 : Int32) : Mo_areKnown_h12 N kh2 v1 (n + 1) s0 v2 = Mo_areKnown_b12 N kh2 (Mo_areKnown_h12 N kh2 v1 n) s0 v1 v2 := rfl
def Mo_areKnown_b2 (N : Nat) (kh2 : zSt → Int32 → Option (Int32 × zSt)) (s0 : zSt) (v1 : Int32) : Option (Int32 × zSt) :=
  if (zI s0 61) ≤ v1 then (some (1, s0)) else (Mo_areKnown_h12 N kh2 v1 N s0 0)
def Mo_areKnown_h2 (N : Nat) : Nat → zSt → Int32 → Option (Int32 × zSt)
  | 0 => fun _ _ => none
  | n + 1 => fun s0 v1 => Mo_areKnown_b2 N (Mo_areKnown_h2 N n) s0 v1
theorem Mo_areKnown_h2_s (N : Nat) (n : Nat) (s0 : zSt) (v1 : Int32) : Mo_areKnown_h2 N (n + 1) s0 v1 = Mo_areKnown_b2 N (Mo_areKnown_h2 N n) s0 v1 := rfl
def Mo_areKnown_b0 (N : Nat) (s0 : zSt) : Option (Int32 × zSt) :=
  Mo_areKnown_h2 N N s0 0
def Mo_areKnown (N : Nat) (s0 : zSt) : Option (Int32 × zSt) := Mo_areKnown_b0 N s0
def Mo_greatest_b29 (N : Nat) (kh4 : Int32 → Int32 → Option (Int32)) (s0 : zSt) (v1 : Int32) (v3 : Int32) (t0 : Int32) : Option (Int32) :=
  kh4 t0 (v3 + 1)
def Mo_greatest_b4 (N : Nat) (kh4 : Int32 → Int32 → Option (Int32)) (s0 : zSt) (v1 : Int32) (v2 : Int32) (v3 : Int32) : Option (Int32) :=
  if v1 ≤ v3 then (some (v2)) else (zck v3 9 (if ((zA s0 56) (Int32.toNatClampNeg v3)) ≤ v2 then (Mo_greatest_b29 N kh4 s0 v1 v3 v2) else (zck v3 9 (Mo_greatest_b29 N kh4 s0 v1 v3 ((zA s0 56) (Int32.toNatClampNeg v3))))))
def Mo_greatest_h4 (N : Nat) (s0 : zSt) (v1 : Int32) : Nat → Int32 → Int32 → Option (Int32)
  | 0 => fun _ _ => none
  | n + 1 => fun v2 v3 => Mo_greatest_b4 N (Mo_greatest_h4 N s0 v1 n) s0 v1 v2 v3
theorem Mo_greatest_h4_s (N : Nat) (s0 : zSt) (v1 : Int32) (n : Nat) (v2 : Int32) (v3 : Int32) : Mo_greatest_h4 N s0 v1 (n + 1) v2 v3 = Mo_greatest_b4 N (Mo_greatest_h4 N s0 v1 n) s0 v1 v2 v3 := rfl
def Mo_greatest_b0 (N : Nat) (s0 : zSt) (v1 : Int32) : Option (Int32) :=
  Mo_greatest_h4 N s0 v1 N (-1) 0
def Mo_greatest (N : Nat) (s0 : zSt) (v1 : Int32) : Option (Int32) := Mo_greatest_b0 N s0 v1
def Mo_nextTones_b7 (N : Nat) (kh7 : zSt → Int32 → Option (Int32 × zSt)) (s0 : zSt) (v1 : Int32) : Option (Int32 × zSt) :=
  if v1 ≤ 0 then (some (0, s0)) else (zck v1 9 ((Mo_greatest N s0 v1).bind (fun z3 => if z3 < ((zA s0 56) (Int32.toNatClampNeg v1)) then (zck v1 9 (kh7 (zsA s0 56 (upd (zA s0 56) (Int32.toNatClampNeg v1) 0)) (v1 + (-1)))) else (zck v1 9 (zck v1 9 (some (1, (zsA s0 56 (upd (zA s0 56) (Int32.toNatClampNeg v1) (((zA s0 56) (Int32.toNatClampNeg v1)) + 1))))))))))
def Mo_nextTones_h7 (N : Nat) : Nat → zSt → Int32 → Option (Int32 × zSt)
  | 0 => fun _ _ => none
  | n + 1 => fun s0 v1 => Mo_nextTones_b7 N (Mo_nextTones_h7 N n) s0 v1
theorem Mo_nextTones_h7_s (N : Nat) (n : Nat) (s0 : zSt) (v1 : Int32) : Mo_nextTones_h7 N (n + 1) s0 v1 = Mo_nextTones_b7 N (Mo_nextTones_h7 N n) s0 v1 := rfl
def Mo_nextTones_b0 (N : Nat) (s0 : zSt) : Option (Int32 × zSt) :=
  Mo_nextTones_h7 N N s0 ((zI s0 30) - 1)
def Mo_nextTones (N : Nat) (s0 : zSt) : Option (Int32 × zSt) := Mo_nextTones_b0 N s0
def Mo_dealt_b81 (N : Nat) (kh41 : zSt → Int32 → Int32 → Option (Int32 × zSt)) (s0 : zSt) (v2 : Int32) : Option (Int32 × zSt) :=
  (Mo_nextTones N s0).bind (fun z1 => kh41 (zmg [17,21,57,59,60] z1.2 s0) v2 z1.1)
def Mo_dealt_b67 (N : Nat) (kh41 : zSt → Int32 → Int32 → Option (Int32 × zSt)) (s0 : zSt) (v2 : Int32) (v4 : Int32) : Option (Int32 × zSt) :=
  (Mo_areKnown N s0).bind (fun z1 => if z1.1 = 0 then (Mo_dealt_b81 N kh41 (zmg [57] z1.2 s0) v2) else ((Mo_putDown N (zmg [57] z1.2 s0)).bind (fun z4 => Mo_dealt_b81 N kh41 (zmg [17,21,59,60] z4 (zmg [57] z1.2 s0)) v4)))
def Mo_dealt_b41 (N : Nat) (kh41 : zSt → Int32 → Int32 → Option (Int32 × zSt)) (s0 : zSt) (v2 : Int32) (v3 : Int32) : Option (Int32 × zSt) :=
  if v3 = 0 then (some (v2, s0)) else ((Mo_greatest N s0 (zI s0 30)).bind (fun z2 => if v2 < 0 then (Mo_dealt_b67 N kh41 s0 v2 (z2 + 1)) else (if v2 ≤ (z2 + 1) then (Mo_dealt_b81 N kh41 s0 v2) else (Mo_dealt_b67 N kh41 s0 v2 (z2 + 1)))))
def Mo_dealt_h41 (N : Nat) : Nat → zSt → Int32 → Int32 → Option (Int32 × zSt)
  | 0 => fun _ _ _ => none
  | n + 1 => fun s0 v2 v3 => Mo_dealt_b41 N (Mo_dealt_h41 N n) s0 v2 v3
theorem Mo_dealt_h41_s (N : Nat) (n : Nat) (s0 : zSt) (v2 : Int32) (v3 : Int32) : Mo_dealt_h41 N (n + 1) s0 v2 v3 = Mo_dealt_b41 N (Mo_dealt_h41 N n) s0 v2 v3 := rfl
def Mo_dealt_b0 (N : Nat) (s0 : zSt) (v1 : Int32) : Option (Int32 × zSt) :=
  (Mo_isIn N v1 1 2).bind (fun z1 => if z1 = 0 then (some ((-1), (zpI s0 58 0))) else (if (zI s0 30) ≤ 8 then ((Mo_clearTried N (zpI s0 58 0)).bind (fun z5 => (Mo_layFew N (zmg [17,21,57,59,60] z5 (zpI s0 58 0)) v1).bind (fun z7 => Mo_dealt_h41 N N (zmg [17,21,56,57,59] z7 (zmg [17,21,57,59,60] z5 (zpI s0 58 0))) (-1) 1))) else (some ((-2), (zpI s0 58 0)))))
def Mo_dealt (N : Nat) (s0 : zSt) (v1 : Int32) : Option (Int32 × zSt) := Mo_dealt_b0 N s0 v1
def Mo_lies_b0 (N : Nat) (s0 : zSt) (v1 : Int32) : Option (Int32) :=
  (Mo_isIn N v1 0 ((zI s0 58) - 1)).bind (fun z1 => if z1 = 0 then (some ((-1))) else (zck v1 9 (some ((zA s0 57) (Int32.toNatClampNeg v1)))))
def Mo_lies (N : Nat) (s0 : zSt) (v1 : Int32) : Option (Int32) := Mo_lies_b0 N s0 v1
def Mo_isKnownNew_b118 (N : Nat) (kh5 : Int32 → Int32 → Option (Int32)) (kh58 : Int32 → Int32 → Option (Int32)) (s0 : zSt) (v1 : Int32) (v2 : Int32) (v4 : Int32) (v5 : Int32) (v6 : Int32) (t0 : Int32) : Option (Int32) :=
  kh58 t0 (v6 + 1)
def Mo_isKnownNew_b117 (N : Nat) (kh5 : Int32 → Int32 → Option (Int32)) (kh58 : Int32 → Int32 → Option (Int32)) (s0 : zSt) (v1 : Int32) (v2 : Int32) (v4 : Int32) (v5 : Int32) (v6 : Int32) : Option (Int32) :=
  Mo_isKnownNew_b118 N kh5 kh58 s0 v1 v2 v4 v5 v6 0
def Mo_isKnownNew_b113 (N : Nat) (kh5 : Int32 → Int32 → Option (Int32)) (kh58 : Int32 → Int32 → Option (Int32)) (s0 : zSt) (v1 : Int32) (v2 : Int32) (v4 : Int32) (v5 : Int32) (v6 : Int32) : Option (Int32) :=
  Mo_isKnownNew_b118 N kh5 kh58 s0 v1 v2 v4 v5 v6 1
def Mo_isKnownNew_b58 (N : Nat) (kh5 : Int32 → Int32 → Option (Int32)) (kh58 : Int32 → Int32 → Option (Int32)) (s0 : zSt) (v1 : Int32) (v2 : Int32) (v3 : Int32) (v4 : Int32) (v5 : Int32) (v6 : Int32) : Option (Int32) :=
  if v4 ≤ v6 then (kh5 v3 (v4 + 1)) else (if v3 = 0 then (Mo_isKnownNew_b117 N kh5 kh58 s0 v1 v2 v4 v5 v6) else (zck v5 11 (zck v6 9 (zck ((zA s0 21) (Int32.toNatClampNeg v6)) 11 (if ((zA s0 16) (Int32.toNatClampNeg v5)) = ((zA s0 16) (Int32.toNatClampNeg ((zA s0 21) (Int32.toNatClampNeg v6)))) then (zck v5 11 (zck v6 9 (zck ((zA s0 21) (Int32.toNatClampNeg v6)) 11 (if ((zA s0 17) (Int32.toNatClampNeg v5)) = ((zA s0 17) (Int32.toNatClampNeg ((zA s0 21) (Int32.toNatClampNeg v6)))) then (Mo_isKnownNew_b117 N kh5 kh58 s0 v1 v2 v4 v5 v6) else (Mo_isKnownNew_b113 N kh5 kh58 s0 v1 v2 v4 v5 v6))))) else (Mo_isKnownNew_b113 N kh5 kh58 s0 v1 v2 v4 v5 v6))))))
def Mo_isKnownNew_h58 (N : Nat) (kh5 : Int32 → Int32 → Option (Int32)) (s0 : zSt) (v1 : Int32) (v2 : Int32) (v4 : Int32) (v5 : Int32) : Nat → Int32 → Int32 → Option (Int32)
  | 0 => fun _ _ => none
  | n + 1 => fun v3 v6 => Mo_isKnownNew_b58 N kh5 (Mo_isKnownNew_h58 N kh5 s0 v1 v2 v4 v5 n) s0 v1 v2 v3 v4 v5 v6
theorem Mo_isKnownNew_h58_s (N : Nat) (kh5 : Int32 → Int32 → Option (Int32)) (s0 : zSt) (v1 : Int32) (v2 : Int32) (v4 : Int32) (v5 : Int32) (n : Nat) (v3 : Int32) (v6 : Int32) : Mo_isKnownNew_h58 N kh5 s0 v1 v2 v4 v5 (n + 1) v3 v6 = Mo_isKnownNew_b58 N kh5 (Mo_isKnownNew_h58 N kh5 s0 v1 v2 v4 v5 n) s0 v1 v2 v3 v4 v5 v6 := rfl
def Mo_isKnownNew_b54 (N : Nat) (kh5 : Int32 → Int32 → Option (Int32)) (s0 : zSt) (v1 : Int32) (v2 : Int32) (v4 : Int32) (v5 : Int32) (t0 : Int32) : Option (Int32) :=
  Mo_isKnownNew_h58 N kh5 s0 v1 v2 v4 v5 N t0 0
def Mo_isKnownNew_b53 (N : Nat) (kh5 : Int32 → Int32 → Option (Int32)) (s0 : zSt) (v1 : Int32) (v2 : Int32) (v4 : Int32) (v5 : Int32) : Option (Int32) :=
  Mo_isKnownNew_b54 N kh5 s0 v1 v2 v4 v5 0
def Mo_isKnownNew_b49 (N : Nat) (kh5 : Int32 → Int32 → Option (Int32)) (s0 : zSt) (v1 : Int32) (v2 : Int32) (v4 : Int32) (v5 : Int32) : Option (Int32) :=
  Mo_isKnownNew_b54 N kh5 s0 v1 v2 v4 v5 1
def Mo_isKnownNew_b5 (N : Nat) (kh5 : Int32 → Int32 → Option (Int32)) (s0 : zSt) (v1 : Int32) (v2 : Int32) (v3 : Int32) (v4 : Int32) : Option (Int32) :=
  if (zI s0 30) ≤ v4 then (zcb v3 (some (v3))) else (zck v4 9 (if v3 = 0 then (Mo_isKnownNew_b53 N kh5 s0 v1 v2 v4 ((zA s0 21) (Int32.toNatClampNeg v4))) else (zck ((zA s0 21) (Int32.toNatClampNeg v4)) 11 (if ((zA s0 16) (Int32.toNatClampNeg ((zA s0 21) (Int32.toNatClampNeg v4)))) = v2 then (zck ((zA s0 21) (Int32.toNatClampNeg v4)) 11 (if ((zA s0 17) (Int32.toNatClampNeg ((zA s0 21) (Int32.toNatClampNeg v4)))) = v1 then (Mo_isKnownNew_b53 N kh5 s0 v1 v2 v4 ((zA s0 21) (Int32.toNatClampNeg v4))) else (Mo_isKnownNew_b49 N kh5 s0 v1 v2 v4 ((zA s0 21) (Int32.toNatClampNeg v4))))) else (Mo_isKnownNew_b49 N kh5 s0 v1 v2 v4 ((zA s0 21) (Int32.toNatClampNeg v4)))))))
def Mo_isKnownNew_h5 (N : Nat) (s0 : zSt) (v1 : Int32) (v2 : Int32) : Nat → Int32 → Int32 → Option (Int32)
  | 0 => fun _ _ => none
  | n + 1 => fun v3 v4 => Mo_isKnownNew_b5 N (Mo_isKnownNew_h5 N s0 v1 v2 n) s0 v1 v2 v3 v4
theorem Mo_isKnownNew_h5_s (N : Nat) (s0 : zSt) (v1 : Int32) (v2 : Int32) (n : Nat) (v3 : Int32) (v4 : Int32) : Mo_isKnownNew_h5 N s0 v1 v2 (n + 1) v3 v4 = Mo_isKnownNew_b5 N (Mo_isKnownNew_h5 N s0 v1 v2 n) s0 v1 v2 v3 v4 := rfl
def Mo_isKnownNew_b0 (N : Nat) (s0 : zSt) (v1 : Int32) (v2 : Int32) : Option (Int32) :=
  Mo_isKnownNew_h5 N s0 v1 v2 N 1 0
def Mo_isKnownNew (N : Nat) (s0 : zSt) (v1 : Int32) (v2 : Int32) : Option (Int32) := Mo_isKnownNew_b0 N s0 v1 v2
def Mo_nearest_b73 (N : Nat) (kh6 : Int32 → Int32 → Option (Int32)) (s0 : zSt) (v1 : Int32) (v2 : Int32) (v3 : Int32) (v4 : Int32) : Option (Int32) :=
  kh6 v3 (v4 + 1)
def Mo_nearest_b72 (N : Nat) (kh6 : Int32 → Int32 → Option (Int32)) (s0 : zSt) (v1 : Int32) (v2 : Int32) (v4 : Int32) (t0 : Int32) : Option (Int32) :=
  Mo_nearest_b73 N kh6 s0 v1 v2 t0 v4
def Mo_nearest_b58 (N : Nat) (kh6 : Int32 → Int32 → Option (Int32)) (s0 : zSt) (v1 : Int32) (v2 : Int32) (v3 : Int32) (v4 : Int32) (t0 : Int32) : Option (Int32) :=
  if v3 ≤ t0 then (Mo_nearest_b72 N kh6 s0 v1 v2 v4 v3) else (Mo_nearest_b72 N kh6 s0 v1 v2 v4 t0)
def Mo_nearest_b6 (N : Nat) (kh6 : Int32 → Int32 → Option (Int32)) (s0 : zSt) (v1 : Int32) (v2 : Int32) (v3 : Int32) (v4 : Int32) : Option (Int32) :=
  if (zI s0 29) ≤ v4 then (some (v3)) else (if ((v1 >>> (v4 &&& 31)) &&& 1) = 0 then (Mo_nearest_b73 N kh6 s0 v1 v2 v3 v4) else (zck v4 11 ((Mo_modulo N (((zA s0 16) (Int32.toNatClampNeg v4)) - v2)).bind (fun z4 => if z4 ≤ 6 then (Mo_nearest_b58 N kh6 s0 v1 v2 v3 v4 z4) else (Mo_nearest_b58 N kh6 s0 v1 v2 v3 v4 (12 - z4))))))
def Mo_nearest_h6 (N : Nat) (s0 : zSt) (v1 : Int32) (v2 : Int32) : Nat → Int32 → Int32 → Option (Int32)
  | 0 => fun _ _ => none
  | n + 1 => fun v3 v4 => Mo_nearest_b6 N (Mo_nearest_h6 N s0 v1 v2 n) s0 v1 v2 v3 v4
theorem Mo_nearest_h6_s (N : Nat) (s0 : zSt) (v1 : Int32) (v2 : Int32) (n : Nat) (v3 : Int32) (v4 : Int32) : Mo_nearest_h6 N s0 v1 v2 (n + 1) v3 v4 = Mo_nearest_b6 N (Mo_nearest_h6 N s0 v1 v2 n) s0 v1 v2 v3 v4 := rfl
def Mo_nearest_b0 (N : Nat) (s0 : zSt) (v1 : Int32) (v2 : Int32) : Option (Int32) :=
  Mo_nearest_h6 N s0 v1 v2 N 12 0
def Mo_nearest (N : Nat) (s0 : zSt) (v1 : Int32) (v2 : Int32) : Option (Int32) := Mo_nearest_b0 N s0 v1 v2
def Mo_fresh_b126 (N : Nat) (kh81 : Int32 → Int32 → Int32 → Option (Int32)) (s0 : zSt) (v1 : Int32) (v3 : Int32) (v4 : Int32) (v5 : Int32) (v6 : Int32) : Option (Int32) :=
  kh81 v4 v5 (v6 + 1)
def Mo_fresh_b81 (N : Nat) (kh81 : Int32 → Int32 → Int32 → Option (Int32)) (s0 : zSt) (v1 : Int32) (v3 : Int32) (v4 : Int32) (v5 : Int32) (v6 : Int32) : Option (Int32) :=
  if 12 ≤ v6 then (some (v4)) else ((Mo_isKnownNew N s0 v1 v6).bind (fun z2 => if z2 = 0 then (Mo_fresh_b126 N kh81 s0 v1 v3 v4 v5 v6) else ((Mo_nearest N s0 v3 v6).bind (fun z5 => if v5 < z5 then ((Mo_nearest N s0 v3 v6).bind (fun z8 => Mo_fresh_b126 N kh81 s0 v1 v3 v6 z8 v6)) else (Mo_fresh_b126 N kh81 s0 v1 v3 v4 v5 v6)))))
def Mo_fresh_h81 (N : Nat) (s0 : zSt) (v1 : Int32) (v3 : Int32) : Nat → Int32 → Int32 → Int32 → Option (Int32)
  | 0 => fun _ _ _ => none
  | n + 1 => fun v4 v5 v6 => Mo_fresh_b81 N (Mo_fresh_h81 N s0 v1 v3 n) s0 v1 v3 v4 v5 v6
theorem Mo_fresh_h81_s (N : Nat) (s0 : zSt) (v1 : Int32) (v3 : Int32) (n : Nat) (v4 : Int32) (v5 : Int32) (v6 : Int32) : Mo_fresh_h81 N s0 v1 v3 (n + 1) v4 v5 v6 = Mo_fresh_b81 N (Mo_fresh_h81 N s0 v1 v3 n) s0 v1 v3 v4 v5 v6 := rfl
def Mo_fresh_b64 (N : Nat) (kh33 : Int32 → Int32 → Option (Int32)) (s0 : zSt) (v1 : Int32) (v2 : Int32) (v4 : Int32) (t0 : Int32) (t1 : Int32) : Option (Int32) :=
  kh33 (t0 ||| t1) (v4 + 1)
def Mo_fresh_b33 (N : Nat) (kh33 : Int32 → Int32 → Option (Int32)) (s0 : zSt) (v1 : Int32) (v2 : Int32) (v3 : Int32) (v4 : Int32) : Option (Int32) :=
  if (zI s0 29) ≤ v4 then (Mo_fresh_h81 N s0 v1 v3 N (-1) (-1) 0) else (if ((v2 >>> (v4 &&& 31)) &&& 1) = 1 then (zck v4 11 (Mo_fresh_b64 N kh33 s0 v1 v2 v4 v3 ((zA s0 20) (Int32.toNatClampNeg v4)))) else (Mo_fresh_b64 N kh33 s0 v1 v2 v4 v3 0))
def Mo_fresh_h33 (N : Nat) (s0 : zSt) (v1 : Int32) (v2 : Int32) : Nat → Int32 → Int32 → Option (Int32)
  | 0 => fun _ _ => none
  | n + 1 => fun v3 v4 => Mo_fresh_b33 N (Mo_fresh_h33 N s0 v1 v2 n) s0 v1 v2 v3 v4
theorem Mo_fresh_h33_s (N : Nat) (s0 : zSt) (v1 : Int32) (v2 : Int32) (n : Nat) (v3 : Int32) (v4 : Int32) : Mo_fresh_h33 N s0 v1 v2 (n + 1) v3 v4 = Mo_fresh_b33 N (Mo_fresh_h33 N s0 v1 v2 n) s0 v1 v2 v3 v4 := rfl
def Mo_fresh_b0 (N : Nat) (s0 : zSt) (v1 : Int32) (v2 : Int32) : Option (Int32) :=
  (Mo_isIn N v1 1 99).bind (fun z1 => if z1 = 0 then (some ((-2))) else (if v2 < 0 then (some ((-2))) else ((Mo_beastSet N s0).bind (fun z5 => if (v2 &&& (z5 ^^^ (-1))) = 0 then (Mo_fresh_h33 N s0 v1 v2 N v2 0) else (some ((-2)))))))
def Mo_fresh (N : Nat) (s0 : zSt) (v1 : Int32) (v2 : Int32) : Option (Int32) := Mo_fresh_b0 N s0 v1 v2
def Mo_isBox_b0 (N : Nat) (v0 : Int32) : Option (Int32) :=
  if v0 < 0 then (some (0)) else (if 3 ≤ v0 then (some (0)) else (some (1)))
def Mo_isBox (N : Nat) (v0 : Int32) : Option (Int32) := Mo_isBox_b0 N v0
def Mo_image_b91 (N : Nat) (kh91 : zSt → Int32 → Option (Int32 × zSt)) (s0 : zSt) (v1 : Int32) (v2 : Int32) : Option (Int32 × zSt) :=
  if 11 ≤ v2 then (some (zI s0 38, s0)) else (zck v2 11 (zck (((16 * v1) + 5) + v2) 48 (kh91 (zsA s0 63 (upd (zA s0 63) (Int32.toNatClampNeg (((16 * v1) + 5) + v2)) ((zA s0 33) (Int32.toNatClampNeg v2)))) (v2 + 1))))
def Mo_image_h91 (N : Nat) (v1 : Int32) : Nat → zSt → Int32 → Option (Int32 × zSt)
  | 0 => fun _ _ => none
  | n + 1 => fun s0 v2 => Mo_image_b91 N (Mo_image_h91 N v1 n) s0 v1 v2
theorem Mo_image_h91_s (N : Nat) (v1 : Int32) (n : Nat) (s0 : zSt) (v2 : Int32) : Mo_image_h91 N v1 (n + 1) s0 v2 = Mo_image_b91 N (Mo_image_h91 N v1 n) s0 v1 v2 := rfl
def Mo_image_b89 (N : Nat) (s0 : zSt) (v1 : Int32) : Option (Int32 × zSt) :=
  Mo_image_h91 N v1 N s0 0
def Mo_image_b74 (N : Nat) (s0 : zSt) (v1 : Int32) : Option (Int32 × zSt) :=
  zck ((16 * v1) + 4) 48 (Mo_image_b89 N (zsA s0 63 (upd (zA s0 63) (Int32.toNatClampNeg ((16 * v1) + 4)) (zI s0 38))) v1)
def Mo_image_b59 (N : Nat) (s0 : zSt) (v1 : Int32) : Option (Int32 × zSt) :=
  zck ((16 * v1) + 3) 48 (Mo_image_b74 N (zsA s0 63 (upd (zA s0 63) (Int32.toNatClampNeg ((16 * v1) + 3)) (zI s0 37))) v1)
def Mo_image_b0 (N : Nat) (s0 : zSt) (v1 : Int32) : Option (Int32 × zSt) :=
  (Mo_isBox N v1).bind (fun z1 => if z1 = 0 then (some ((-1), s0)) else (zck v1 3 (zck (16 * v1) 48 (zck ((16 * v1) + 1) 48 (zck ((16 * v1) + 2) 48 (Mo_image_b59 N (zsA (zsA (zsA (zsA s0 62 (upd (zA s0 62) (Int32.toNatClampNeg v1) 1)) 63 (upd (zA s0 63) (Int32.toNatClampNeg (16 * v1)) (zI s0 34))) 63 (upd (upd (zA s0 63) (Int32.toNatClampNeg (16 * v1)) (zI s0 34)) (Int32.toNatClampNeg ((16 * v1) + 1)) (zI s0 35))) 63 (upd (upd (upd (zA s0 63) (Int32.toNatClampNeg (16 * v1)) (zI s0 34)) (Int32.toNatClampNeg ((16 * v1) + 1)) (zI s0 35)) (Int32.toNatClampNeg ((16 * v1) + 2)) (zI s0 36))) v1))))))
def Mo_image (N : Nat) (s0 : zSt) (v1 : Int32) : Option (Int32 × zSt) := Mo_image_b0 N s0 v1
def Mo_back_b93 (N : Nat) (kh93 : zSt → Int32 → Option (Int32 × zSt)) (s0 : zSt) (v1 : Int32) (v2 : Int32) : Option (Int32 × zSt) :=
  if 11 ≤ v2 then (some (zI s0 38, s0)) else (zck (((16 * v1) + 5) + v2) 48 (zck v2 11 (kh93 (zsA s0 33 (upd (zA s0 33) (Int32.toNatClampNeg v2) ((zA s0 63) (Int32.toNatClampNeg (((16 * v1) + 5) + v2))))) (v2 + 1))))
def Mo_back_h93 (N : Nat) (v1 : Int32) : Nat → zSt → Int32 → Option (Int32 × zSt)
  | 0 => fun _ _ => none
  | n + 1 => fun s0 v2 => Mo_back_b93 N (Mo_back_h93 N v1 n) s0 v1 v2
theorem Mo_back_h93_s (N : Nat) (v1 : Int32) (n : Nat) (s0 : zSt) (v2 : Int32) : Mo_back_h93 N v1 (n + 1) s0 v2 = Mo_back_b93 N (Mo_back_h93 N v1 n) s0 v1 v2 := rfl
def Mo_back_b91 (N : Nat) (s0 : zSt) (v1 : Int32) : Option (Int32 × zSt) :=
  Mo_back_h93 N v1 N s0 0
def Mo_back_b76 (N : Nat) (s0 : zSt) (v1 : Int32) : Option (Int32 × zSt) :=
  zck ((16 * v1) + 4) 48 (Mo_back_b91 N (zpI s0 38 ((zA s0 63) (Int32.toNatClampNeg ((16 * v1) + 4)))) v1)
def Mo_back_b61 (N : Nat) (s0 : zSt) (v1 : Int32) : Option (Int32 × zSt) :=
  zck ((16 * v1) + 3) 48 (Mo_back_b76 N (zpI s0 37 ((zA s0 63) (Int32.toNatClampNeg ((16 * v1) + 3)))) v1)
def Mo_back_b46 (N : Nat) (s0 : zSt) (v1 : Int32) : Option (Int32 × zSt) :=
  zck ((16 * v1) + 2) 48 (Mo_back_b61 N (zpI s0 36 ((zA s0 63) (Int32.toNatClampNeg ((16 * v1) + 2)))) v1)
def Mo_back_b31 (N : Nat) (s0 : zSt) (v1 : Int32) : Option (Int32 × zSt) :=
  zck ((16 * v1) + 1) 48 (Mo_back_b46 N (zpI s0 35 ((zA s0 63) (Int32.toNatClampNeg ((16 * v1) + 1)))) v1)
def Mo_back_b0 (N : Nat) (s0 : zSt) (v1 : Int32) : Option (Int32 × zSt) :=
  (Mo_isBox N v1).bind (fun z1 => if z1 = 0 then (some ((-1), s0)) else (zck v1 3 (if ((zA s0 62) (Int32.toNatClampNeg v1)) = 0 then (some ((-1), s0)) else (zck (16 * v1) 48 (Mo_back_b31 N (zpI s0 34 ((zA s0 63) (Int32.toNatClampNeg (16 * v1)))) v1)))))
def Mo_back (N : Nat) (s0 : zSt) (v1 : Int32) : Option (Int32 × zSt) := Mo_back_b0 N s0 v1
def Mo_about_b0 (N : Nat) (s0 : zSt) (v1 : Int32) : Option (Int32) :=
  if v1 = 0 then (some (zI s0 28)) else (if v1 = 1 then (some (zI s0 30)) else (if v1 = 2 then (some (zI s0 31)) else (if v1 = 3 then (some (zI s0 32)) else (if v1 = 4 then (some (zI s0 36)) else (if v1 = 5 then (some (zI s0 37)) else (if v1 = 6 then (some (zI s0 38)) else (if v1 = 7 then (some (zI s0 47)) else (if v1 = 8 then (some (zI s0 48)) else (if v1 = 9 then (some (zI s0 1)) else (if v1 = 10 then (some (zI s0 58)) else (some ((-1)))))))))))))
def Mo_about (N : Nat) (s0 : zSt) (v1 : Int32) : Option (Int32) := Mo_about_b0 N s0 v1
