/-- the Nat of a number that is one -/
abbrev nN (x : Int32) : Nat := x.toNatClampNeg
def lay4 (I : gm_I) (q k : Nat) (a b c d : Int32) : gm_I := gm_up (gm_up (gm_up (gm_up I q k a) q (k + 1) b) q (k + 2) c) q (k + 3) d
def sp_guard (I : gm_I) (J : gm_J) (r : Nat) (v a b c d : Int32) : Int32 × gm_M :=
  if lpB I r v = true then
    if rowB (nN (I (r + 1) (nN v))) a b c d = true then
      if nN (I (r + 3) (nN v)) = 4 then (-4, I, J)
      else (nI (nN (I (r + 3) (nN v)) + 1), gm_up (lay4 I (r + 4) (16 * nN v + 4 * nN (I (r + 3) (nN v))) a b c d) (r + 3) (nN v) (nI (nN (I (r + 3) (nN v)) + 1)), J)
    else (-3, I, J)
  else (-2, I, J)
def sp_row (I : gm_I) (J : gm_J) (r : Nat) (v w a b c d : Int32) : Int32 × gm_M :=
  if wyB I r v w = true then
    if rowB (nN (I (r + 1) (nN v))) a b c d = true then
      if nN (I (r + 5) (3 * nN v + nN w)) = 2 then (-4, I, J)
      else (nI (nN (I (r + 5) (3 * nN v + nN w)) + 1), gm_up (lay4 I (r + 6) (8 * (3 * nN v + nN w) + 4 * nN (I (r + 5) (3 * nN v + nN w))) a b c d) (r + 5) (3 * nN v + nN w) (nI (nN (I (r + 5) (3 * nN v + nN w)) + 1)), J)
    else (-3, I, J)
  else (-2, I, J)
def sp_factor (I : gm_I) (J : gm_J) (r : Nat) (v w a b x : Int32) : Int32 × gm_M :=
  if (wyB I r v w && nmB I r v a && nmB I r v b) = true then
    if inI x (-3) (nI 3) = true then (I (r + 7) (9 * (3 * nN v + nN w) + 3 * nN a + nN b) + nI 3, gm_up I (r + 7) (9 * (3 * nN v + nN w) + 3 * nN a + nN b) x, J)
    else (-3, I, J)
  else (-2, I, J)
def sp_constant (I : gm_I) (J : gm_J) (r : Nat) (v w a x : Int32) : Int32 × gm_M :=
  if (wyB I r v w && nmB I r v a) = true then
    if inI x (-99) (nI 99) = true then (I (r + 8) (3 * (3 * nN v + nN w) + nN a) + nI 99, gm_up I (r + 8) (3 * (3 * nN v + nN w) + nN a) x, J)
    else (-3, I, J)
  else (-2, I, J)
