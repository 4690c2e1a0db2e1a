-- PURE: the digest
def mx (d : Int64) (x : Int32) : Int64 := d * 31 + x.toInt64
def fldD (σ : Sg) (d : Int64) (i : Nat) : Int64 := mx (mx (mx (mx (mx (mx d (σ 2 i)) (σ 3 i)) (σ 4 i)) (openS σ i)) (reachS σ i)) (untilS σ i)
def fldsD (σ : Sg) (d : Int64) : Nat → Int64
  | 0 => d
  | i + 1 => fldD σ (fldsD σ d i) i
def drnD (σ : Sg) (d : Int64) (i : Nat) : Int64 := mx (mx (mx d (σ 10 i)) (σ 8 i)) (ab (flow σ i))
def drnsD (σ : Sg) (d : Int64) : Nat → Int64
  | 0 => d
  | i + 1 => drnD σ (drnsD σ d i) i
def headD (σ : Sg) : Int64 := mx (mx (mx (mx (mx (mx (mx (mx (mx (mx (mx (mx (mx (mx 2341 (σ 11 4)) (σ 11 0)) (σ 11 1)) (σ 11 2)) (waterS σ)) (σ 11 3)) (wetN σ)) (lost σ)) (amax (fun q => σ 0 q + σ 2 q) (nF σ))) (amax (fun q => σ 8 q) (nD σ))) (lossH 12 σ)) (turnB σ)) (floodB σ (nI 10))) (borneS σ)
def digS (σ : Sg) : Int64 := drnsD σ (fldsD σ (headD σ) (nF σ)) (nD σ)
