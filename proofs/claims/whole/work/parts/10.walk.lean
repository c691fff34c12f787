def fX6_takeFrom (a0 : Nat) (a1 : Nat) (σ : Mm) : Option (Mm) :=
  (gR σ a1 0).bind fun r1 => (gR σ a0 0).bind fun r2 => if cpB 0 0 (nI (ln r2)) (ln r1) (ln r2) = true then (gR σ a1 1).bind fun r4 => (gR σ a0 1).bind fun r5 => if cpB 0 0 (nI (ln r5)) (ln r4) (ln r5) = true then (gR σ a1 2).bind fun r7 => (gR σ a0 2).bind fun r8 => if cpB 0 0 (nI (ln r8)) (ln r7) (ln r8) = true then (gR σ a1 3).bind fun r10 => (gR σ a0 3).bind fun r11 => if cpB 0 0 (nI (ln r11)) (ln r10) (ln r11) = true then some (sI (sI (sI (sA (sA (sA (sA σ r2 (va_cpy (gI σ r1) (gI σ r2) (Int32.toNatClampNeg 0) (Int32.toNatClampNeg 0) (Int32.toNatClampNeg (nI (ln r2))))) r5 (va_cpy (gI (sA σ r2 (va_cpy (gI σ r1) (gI σ r2) (Int32.toNatClampNeg 0) (Int32.toNatClampNeg 0) (Int32.toNatClampNeg (nI (ln r2))))) r4) (gI (sA σ r2 (va_cpy (gI σ r1) (gI σ r2) (Int32.toNatClampNeg 0) (Int32.toNatClampNeg 0) (Int32.toNatClampNeg (nI (ln r2))))) r5) (Int32.toNatClampNeg 0) (Int32.toNatClampNeg 0) (Int32.toNatClampNeg (nI (ln r5))))) r8 (va_cpy (gI (sA (sA σ r2 (va_cpy (gI σ r1) (gI σ r2) (Int32.toNatClampNeg 0) (Int32.toNatClampNeg 0) (Int32.toNatClampNeg (nI (ln r2))))) r5 (va_cpy (gI (sA σ r2 (va_cpy (gI σ r1) (gI σ r2) (Int32.toNatClampNeg 0) (Int32.toNatClampNeg 0) (Int32.toNatClampNeg (nI (ln r2))))) r4) (gI (sA σ r2 (va_cpy (gI σ r1) (gI σ r2) (Int32.toNatClampNeg 0) (Int32.toNatClampNeg 0) (Int32.toNatClampNeg (nI (ln r2))))) r5) (Int32.toNatClampNeg 0) (Int32.toNatClampNeg 0) (Int32.toNatClampNeg (nI (ln r5))))) r7) (gI (sA (sA σ r2 (va_cpy (gI σ r1) (gI σ r2) (Int32.toNatClampNeg 0) (Int32.toNatClampNeg 0) (Int32.toNatClampNeg (nI (ln r2))))) r5 (va_cpy (gI (sA σ r2 (va_cpy (gI σ r1) (gI σ r2) (Int32.toNatClampNeg 0) (Int32.toNatClampNeg 0) (Int32.toNatClampNeg (nI (ln r2))))) r4) (gI (sA σ r2 (va_cpy (gI σ r1) (gI σ r2) (Int32.toNatClampNeg 0) (Int32.toNatClampNeg 0) (Int32.toNatClampNeg (nI (ln r2))))) r5) (Int32.toNatClampNeg 0) (Int32.toNatClampNeg 0) (Int32.toNatClampNeg (nI (ln r5))))) r8) (Int32.toNatClampNeg 0) (Int32.toNatClampNeg 0) (Int32.toNatClampNeg (nI (ln r8))))) r11 (va_cpy (gI (sA (sA (sA σ r2 (va_cpy (gI σ r1) (gI σ r2) (Int32.toNatClampNeg 0) (Int32.toNatClampNeg 0) (Int32.toNatClampNeg (nI (ln r2))))) r5 (va_cpy (gI (sA σ r2 (va_cpy (gI σ r1) (gI σ r2) (Int32.toNatClampNeg 0) (Int32.toNatClampNeg 0) (Int32.toNatClampNeg (nI (ln r2))))) r4) (gI (sA σ r2 (va_cpy (gI σ r1) (gI σ r2) (Int32.toNatClampNeg 0) (Int32.toNatClampNeg 0) (Int32.toNatClampNeg (nI (ln r2))))) r5) (Int32.toNatClampNeg 0) (Int32.toNatClampNeg 0) (Int32.toNatClampNeg (nI (ln r5))))) r8 (va_cpy (gI (sA (sA σ r2 (va_cpy (gI σ r1) (gI σ r2) (Int32.toNatClampNeg 0) (Int32.toNatClampNeg 0) (Int32.toNatClampNeg (nI (ln r2))))) r5 (va_cpy (gI (sA σ r2 (va_cpy (gI σ r1) (gI σ r2) (Int32.toNatClampNeg 0) (Int32.toNatClampNeg 0) (Int32.toNatClampNeg (nI (ln r2))))) r4) (gI (sA σ r2 (va_cpy (gI σ r1) (gI σ r2) (Int32.toNatClampNeg 0) (Int32.toNatClampNeg 0) (Int32.toNatClampNeg (nI (ln r2))))) r5) (Int32.toNatClampNeg 0) (Int32.toNatClampNeg 0) (Int32.toNatClampNeg (nI (ln r5))))) r7) (gI (sA (sA σ r2 (va_cpy (gI σ r1) (gI σ r2) (Int32.toNatClampNeg 0) (Int32.toNatClampNeg 0) (Int32.toNatClampNeg (nI (ln r2))))) r5 (va_cpy (gI (sA σ r2 (va_cpy (gI σ r1) (gI σ r2) (Int32.toNatClampNeg 0) (Int32.toNatClampNeg 0) (Int32.toNatClampNeg (nI (ln r2))))) r4) (gI (sA σ r2 (va_cpy (gI σ r1) (gI σ r2) (Int32.toNatClampNeg 0) (Int32.toNatClampNeg 0) (Int32.toNatClampNeg (nI (ln r2))))) r5) (Int32.toNatClampNeg 0) (Int32.toNatClampNeg 0) (Int32.toNatClampNeg (nI (ln r5))))) r8) (Int32.toNatClampNeg 0) (Int32.toNatClampNeg 0) (Int32.toNatClampNeg (nI (ln r8))))) r10) (gI (sA (sA (sA σ r2 (va_cpy (gI σ r1) (gI σ r2) (Int32.toNatClampNeg 0) (Int32.toNatClampNeg 0) (Int32.toNatClampNeg (nI (ln r2))))) r5 (va_cpy (gI (sA σ r2 (va_cpy (gI σ r1) (gI σ r2) (Int32.toNatClampNeg 0) (Int32.toNatClampNeg 0) (Int32.toNatClampNeg (nI (ln r2))))) r4) (gI (sA σ r2 (va_cpy (gI σ r1) (gI σ r2) (Int32.toNatClampNeg 0) (Int32.toNatClampNeg 0) (Int32.toNatClampNeg (nI (ln r2))))) r5) (Int32.toNatClampNeg 0) (Int32.toNatClampNeg 0) (Int32.toNatClampNeg (nI (ln r5))))) r8 (va_cpy (gI (sA (sA σ r2 (va_cpy (gI σ r1) (gI σ r2) (Int32.toNatClampNeg 0) (Int32.toNatClampNeg 0) (Int32.toNatClampNeg (nI (ln r2))))) r5 (va_cpy (gI (sA σ r2 (va_cpy (gI σ r1) (gI σ r2) (Int32.toNatClampNeg 0) (Int32.toNatClampNeg 0) (Int32.toNatClampNeg (nI (ln r2))))) r4) (gI (sA σ r2 (va_cpy (gI σ r1) (gI σ r2) (Int32.toNatClampNeg 0) (Int32.toNatClampNeg 0) (Int32.toNatClampNeg (nI (ln r2))))) r5) (Int32.toNatClampNeg 0) (Int32.toNatClampNeg 0) (Int32.toNatClampNeg (nI (ln r5))))) r7) (gI (sA (sA σ r2 (va_cpy (gI σ r1) (gI σ r2) (Int32.toNatClampNeg 0) (Int32.toNatClampNeg 0) (Int32.toNatClampNeg (nI (ln r2))))) r5 (va_cpy (gI (sA σ r2 (va_cpy (gI σ r1) (gI σ r2) (Int32.toNatClampNeg 0) (Int32.toNatClampNeg 0) (Int32.toNatClampNeg (nI (ln r2))))) r4) (gI (sA σ r2 (va_cpy (gI σ r1) (gI σ r2) (Int32.toNatClampNeg 0) (Int32.toNatClampNeg 0) (Int32.toNatClampNeg (nI (ln r2))))) r5) (Int32.toNatClampNeg 0) (Int32.toNatClampNeg 0) (Int32.toNatClampNeg (nI (ln r5))))) r8) (Int32.toNatClampNeg 0) (Int32.toNatClampNeg 0) (Int32.toNatClampNeg (nI (ln r8))))) r11) (Int32.toNatClampNeg 0) (Int32.toNatClampNeg 0) (Int32.toNatClampNeg (nI (ln r11))))) a0 4 (gI (sA (sA (sA (sA σ r2 (va_cpy (gI σ r1) (gI σ r2) (Int32.toNatClampNeg 0) (Int32.toNatClampNeg 0) (Int32.toNatClampNeg (nI (ln r2))))) r5 (va_cpy (gI (sA σ r2 (va_cpy (gI σ r1) (gI σ r2) (Int32.toNatClampNeg 0) (Int32.toNatClampNeg 0) (Int32.toNatClampNeg (nI (ln r2))))) r4) (gI (sA σ r2 (va_cpy (gI σ r1) (gI σ r2) (Int32.toNatClampNeg 0) (Int32.toNatClampNeg 0) (Int32.toNatClampNeg (nI (ln r2))))) r5) (Int32.toNatClampNeg 0) (Int32.toNatClampNeg 0) (Int32.toNatClampNeg (nI (ln r5))))) r8 (va_cpy (gI (sA (sA σ r2 (va_cpy (gI σ r1) (gI σ r2) (Int32.toNatClampNeg 0) (Int32.toNatClampNeg 0) (Int32.toNatClampNeg (nI (ln r2))))) r5 (va_cpy (gI (sA σ r2 (va_cpy (gI σ r1) (gI σ r2) (Int32.toNatClampNeg 0) (Int32.toNatClampNeg 0) (Int32.toNatClampNeg (nI (ln r2))))) r4) (gI (sA σ r2 (va_cpy (gI σ r1) (gI σ r2) (Int32.toNatClampNeg 0) (Int32.toNatClampNeg 0) (Int32.toNatClampNeg (nI (ln r2))))) r5) (Int32.toNatClampNeg 0) (Int32.toNatClampNeg 0) (Int32.toNatClampNeg (nI (ln r5))))) r7) (gI (sA (sA σ r2 (va_cpy (gI σ r1) (gI σ r2) (Int32.toNatClampNeg 0) (Int32.toNatClampNeg 0) (Int32.toNatClampNeg (nI (ln r2))))) r5 (va_cpy (gI (sA σ r2 (va_cpy (gI σ r1) (gI σ r2) (Int32.toNatClampNeg 0) (Int32.toNatClampNeg 0) (Int32.toNatClampNeg (nI (ln r2))))) r4) (gI (sA σ r2 (va_cpy (gI σ r1) (gI σ r2) (Int32.toNatClampNeg 0) (Int32.toNatClampNeg 0) (Int32.toNatClampNeg (nI (ln r2))))) r5) (Int32.toNatClampNeg 0) (Int32.toNatClampNeg 0) (Int32.toNatClampNeg (nI (ln r5))))) r8) (Int32.toNatClampNeg 0) (Int32.toNatClampNeg 0) (Int32.toNatClampNeg (nI (ln r8))))) r11 (va_cpy (gI (sA (sA (sA σ r2 (va_cpy (gI σ r1) (gI σ r2) (Int32.toNatClampNeg 0) (Int32.toNatClampNeg 0) (Int32.toNatClampNeg (nI (ln r2))))) r5 (va_cpy (gI (sA σ r2 (va_cpy (gI σ r1) (gI σ r2) (Int32.toNatClampNeg 0) (Int32.toNatClampNeg 0) (Int32.toNatClampNeg (nI (ln r2))))) r4) (gI (sA σ r2 (va_cpy (gI σ r1) (gI σ r2) (Int32.toNatClampNeg 0) (Int32.toNatClampNeg 0) (Int32.toNatClampNeg (nI (ln r2))))) r5) (Int32.toNatClampNeg 0) (Int32.toNatClampNeg 0) (Int32.toNatClampNeg (nI (ln r5))))) r8 (va_cpy (gI (sA (sA σ r2 (va_cpy (gI σ r1) (gI σ r2) (Int32.toNatClampNeg 0) (Int32.toNatClampNeg 0) (Int32.toNatClampNeg (nI (ln r2))))) r5 (va_cpy (gI (sA σ r2 (va_cpy (gI σ r1) (gI σ r2) (Int32.toNatClampNeg 0) (Int32.toNatClampNeg 0) (Int32.toNatClampNeg (nI (ln r2))))) r4) (gI (sA σ r2 (va_cpy (gI σ r1) (gI σ r2) (Int32.toNatClampNeg 0) (Int32.toNatClampNeg 0) (Int32.toNatClampNeg (nI (ln r2))))) r5) (Int32.toNatClampNeg 0) (Int32.toNatClampNeg 0) (Int32.toNatClampNeg (nI (ln r5))))) r7) (gI (sA (sA σ r2 (va_cpy (gI σ r1) (gI σ r2) (Int32.toNatClampNeg 0) (Int32.toNatClampNeg 0) (Int32.toNatClampNeg (nI (ln r2))))) r5 (va_cpy (gI (sA σ r2 (va_cpy (gI σ r1) (gI σ r2) (Int32.toNatClampNeg 0) (Int32.toNatClampNeg 0) (Int32.toNatClampNeg (nI (ln r2))))) r4) (gI (sA σ r2 (va_cpy (gI σ r1) (gI σ r2) (Int32.toNatClampNeg 0) (Int32.toNatClampNeg 0) (Int32.toNatClampNeg (nI (ln r2))))) r5) (Int32.toNatClampNeg 0) (Int32.toNatClampNeg 0) (Int32.toNatClampNeg (nI (ln r5))))) r8) (Int32.toNatClampNeg 0) (Int32.toNatClampNeg 0) (Int32.toNatClampNeg (nI (ln r8))))) r10) (gI (sA (sA (sA σ r2 (va_cpy (gI σ r1) (gI σ r2) (Int32.toNatClampNeg 0) (Int32.toNatClampNeg 0) (Int32.toNatClampNeg (nI (ln r2))))) r5 (va_cpy (gI (sA σ r2 (va_cpy (gI σ r1) (gI σ r2) (Int32.toNatClampNeg 0) (Int32.toNatClampNeg 0) (Int32.toNatClampNeg (nI (ln r2))))) r4) (gI (sA σ r2 (va_cpy (gI σ r1) (gI σ r2) (Int32.toNatClampNeg 0) (Int32.toNatClampNeg 0) (Int32.toNatClampNeg (nI (ln r2))))) r5) (Int32.toNatClampNeg 0) (Int32.toNatClampNeg 0) (Int32.toNatClampNeg (nI (ln r5))))) r8 (va_cpy (gI (sA (sA σ r2 (va_cpy (gI σ r1) (gI σ r2) (Int32.toNatClampNeg 0) (Int32.toNatClampNeg 0) (Int32.toNatClampNeg (nI (ln r2))))) r5 (va_cpy (gI (sA σ r2 (va_cpy (gI σ r1) (gI σ r2) (Int32.toNatClampNeg 0) (Int32.toNatClampNeg 0) (Int32.toNatClampNeg (nI (ln r2))))) r4) (gI (sA σ r2 (va_cpy (gI σ r1) (gI σ r2) (Int32.toNatClampNeg 0) (Int32.toNatClampNeg 0) (Int32.toNatClampNeg (nI (ln r2))))) r5) (Int32.toNatClampNeg 0) (Int32.toNatClampNeg 0) (Int32.toNatClampNeg (nI (ln r5))))) r7) (gI (sA (sA σ r2 (va_cpy (gI σ r1) (gI σ r2) (Int32.toNatClampNeg 0) (Int32.toNatClampNeg 0) (Int32.toNatClampNeg (nI (ln r2))))) r5 (va_cpy (gI (sA σ r2 (va_cpy (gI σ r1) (gI σ r2) (Int32.toNatClampNeg 0) (Int32.toNatClampNeg 0) (Int32.toNatClampNeg (nI (ln r2))))) r4) (gI (sA σ r2 (va_cpy (gI σ r1) (gI σ r2) (Int32.toNatClampNeg 0) (Int32.toNatClampNeg 0) (Int32.toNatClampNeg (nI (ln r2))))) r5) (Int32.toNatClampNeg 0) (Int32.toNatClampNeg 0) (Int32.toNatClampNeg (nI (ln r5))))) r8) (Int32.toNatClampNeg 0) (Int32.toNatClampNeg 0) (Int32.toNatClampNeg (nI (ln r8))))) r11) (Int32.toNatClampNeg 0) (Int32.toNatClampNeg 0) (Int32.toNatClampNeg (nI (ln r11))))) a1 4)) a0 5 (gI (sI (sA (sA (sA (sA σ r2 (va_cpy (gI σ r1) (gI σ r2) (Int32.toNatClampNeg 0) (Int32.toNatClampNeg 0) (Int32.toNatClampNeg (nI (ln r2))))) r5 (va_cpy (gI (sA σ r2 (va_cpy (gI σ r1) (gI σ r2) (Int32.toNatClampNeg 0) (Int32.toNatClampNeg 0) (Int32.toNatClampNeg (nI (ln r2))))) r4) (gI (sA σ r2 (va_cpy (gI σ r1) (gI σ r2) (Int32.toNatClampNeg 0) (Int32.toNatClampNeg 0) (Int32.toNatClampNeg (nI (ln r2))))) r5) (Int32.toNatClampNeg 0) (Int32.toNatClampNeg 0) (Int32.toNatClampNeg (nI (ln r5))))) r8 (va_cpy (gI (sA (sA σ r2 (va_cpy (gI σ r1) (gI σ r2) (Int32.toNatClampNeg 0) (Int32.toNatClampNeg 0) (Int32.toNatClampNeg (nI (ln r2))))) r5 (va_cpy (gI (sA σ r2 (va_cpy (gI σ r1) (gI σ r2) (Int32.toNatClampNeg 0) (Int32.toNatClampNeg 0) (Int32.toNatClampNeg (nI (ln r2))))) r4) (gI (sA σ r2 (va_cpy (gI σ r1) (gI σ r2) (Int32.toNatClampNeg 0) (Int32.toNatClampNeg 0) (Int32.toNatClampNeg (nI (ln r2))))) r5) (Int32.toNatClampNeg 0) (Int32.toNatClampNeg 0) (Int32.toNatClampNeg (nI (ln r5))))) r7) (gI (sA (sA σ r2 (va_cpy (gI σ r1) (gI σ r2) (Int32.toNatClampNeg 0) (Int32.toNatClampNeg 0) (Int32.toNatClampNeg (nI (ln r2))))) r5 (va_cpy (gI (sA σ r2 (va_cpy (gI σ r1) (gI σ r2) (Int32.toNatClampNeg 0) (Int32.toNatClampNeg 0) (Int32.toNatClampNeg (nI (ln r2))))) r4) (gI (sA σ r2 (va_cpy (gI σ r1) (gI σ r2) (Int32.toNatClampNeg 0) (Int32.toNatClampNeg 0) (Int32.toNatClampNeg (nI (ln r2))))) r5) (Int32.toNatClampNeg 0) (Int32.toNatClampNeg 0) (Int32.toNatClampNeg (nI (ln r5))))) r8) (Int32.toNatClampNeg 0) (Int32.toNatClampNeg 0) (Int32.toNatClampNeg (nI (ln r8))))) r11 (va_cpy (gI (sA (sA (sA σ r2 (va_cpy (gI σ r1) (gI σ r2) (Int32.toNatClampNeg 0) (Int32.toNatClampNeg 0) (Int32.toNatClampNeg (nI (ln r2))))) r5 (va_cpy (gI (sA σ r2 (va_cpy (gI σ r1) (gI σ r2) (Int32.toNatClampNeg 0) (Int32.toNatClampNeg 0) (Int32.toNatClampNeg (nI (ln r2))))) r4) (gI (sA σ r2 (va_cpy (gI σ r1) (gI σ r2) (Int32.toNatClampNeg 0) (Int32.toNatClampNeg 0) (Int32.toNatClampNeg (nI (ln r2))))) r5) (Int32.toNatClampNeg 0) (Int32.toNatClampNeg 0) (Int32.toNatClampNeg (nI (ln r5))))) r8 (va_cpy (gI (sA (sA σ r2 (va_cpy (gI σ r1) (gI σ r2) (Int32.toNatClampNeg 0) (Int32.toNatClampNeg 0) (Int32.toNatClampNeg (nI (ln r2))))) r5 (va_cpy (gI (sA σ r2 (va_cpy (gI σ r1) (gI σ r2) (Int32.toNatClampNeg 0) (Int32.toNatClampNeg 0) (Int32.toNatClampNeg (nI (ln r2))))) r4) (gI (sA σ r2 (va_cpy (gI σ r1) (gI σ r2) (Int32.toNatClampNeg 0) (Int32.toNatClampNeg 0) (Int32.toNatClampNeg (nI (ln r2))))) r5) (Int32.toNatClampNeg 0) (Int32.toNatClampNeg 0) (Int32.toNatClampNeg (nI (ln r5))))) r7) (gI (sA (sA σ r2 (va_cpy (gI σ r1) (gI σ r2) (Int32.toNatClampNeg 0) (Int32.toNatClampNeg 0) (Int32.toNatClampNeg (nI (ln r2))))) r5 (va_cpy (gI (sA σ r2 (va_cpy (gI σ r1) (gI σ r2) (Int32.toNatClampNeg 0) (Int32.toNatClampNeg 0) (Int32.toNatClampNeg (nI (ln r2))))) r4) (gI (sA σ r2 (va_cpy (gI σ r1) (gI σ r2) (Int32.toNatClampNeg 0) (Int32.toNatClampNeg 0) (Int32.toNatClampNeg (nI (ln r2))))) r5) (Int32.toNatClampNeg 0) (Int32.toNatClampNeg 0) (Int32.toNatClampNeg (nI (ln r5))))) r8) (Int32.toNatClampNeg 0) (Int32.toNatClampNeg 0) (Int32.toNatClampNeg (nI (ln r8))))) r10) (gI (sA (sA (sA σ r2 (va_cpy (gI σ r1) (gI σ r2) (Int32.toNatClampNeg 0) (Int32.toNatClampNeg 0) (Int32.toNatClampNeg (nI (ln r2))))) r5 (va_cpy (gI (sA σ r2 (va_cpy (gI σ r1) (gI σ r2) (Int32.toNatClampNeg 0) (Int32.toNatClampNeg 0) (Int32.toNatClampNeg (nI (ln r2))))) r4) (gI (sA σ r2 (va_cpy (gI σ r1) (gI σ r2) (Int32.toNatClampNeg 0) (Int32.toNatClampNeg 0) (Int32.toNatClampNeg (nI (ln r2))))) r5) (Int32.toNatClampNeg 0) (Int32.toNatClampNeg 0) (Int32.toNatClampNeg (nI (ln r5))))) r8 (va_cpy (gI (sA (sA σ r2 (va_cpy (gI σ r1) (gI σ r2) (Int32.toNatClampNeg 0) (Int32.toNatClampNeg 0) (Int32.toNatClampNeg (nI (ln r2))))) r5 (va_cpy (gI (sA σ r2 (va_cpy (gI σ r1) (gI σ r2) (Int32.toNatClampNeg 0) (Int32.toNatClampNeg 0) (Int32.toNatClampNeg (nI (ln r2))))) r4) (gI (sA σ r2 (va_cpy (gI σ r1) (gI σ r2) (Int32.toNatClampNeg 0) (Int32.toNatClampNeg 0) (Int32.toNatClampNeg (nI (ln r2))))) r5) (Int32.toNatClampNeg 0) (Int32.toNatClampNeg 0) (Int32.toNatClampNeg (nI (ln r5))))) r7) (gI (sA (sA σ r2 (va_cpy (gI σ r1) (gI σ r2) (Int32.toNatClampNeg 0) (Int32.toNatClampNeg 0) (Int32.toNatClampNeg (nI (ln r2))))) r5 (va_cpy (gI (sA σ r2 (va_cpy (gI σ r1) (gI σ r2) (Int32.toNatClampNeg 0) (Int32.toNatClampNeg 0) (Int32.toNatClampNeg (nI (ln r2))))) r4) (gI (sA σ r2 (va_cpy (gI σ r1) (gI σ r2) (Int32.toNatClampNeg 0) (Int32.toNatClampNeg 0) (Int32.toNatClampNeg (nI (ln r2))))) r5) (Int32.toNatClampNeg 0) (Int32.toNatClampNeg 0) (Int32.toNatClampNeg (nI (ln r5))))) r8) (Int32.toNatClampNeg 0) (Int32.toNatClampNeg 0) (Int32.toNatClampNeg (nI (ln r8))))) r11) (Int32.toNatClampNeg 0) (Int32.toNatClampNeg 0) (Int32.toNatClampNeg (nI (ln r11))))) a0 4 (gI (sA (sA (sA (sA σ r2 (va_cpy (gI σ r1) (gI σ r2) (Int32.toNatClampNeg 0) (Int32.toNatClampNeg 0) (Int32.toNatClampNeg (nI (ln r2))))) r5 (va_cpy (gI (sA σ r2 (va_cpy (gI σ r1) (gI σ r2) (Int32.toNatClampNeg 0) (Int32.toNatClampNeg 0) (Int32.toNatClampNeg (nI (ln r2))))) r4) (gI (sA σ r2 (va_cpy (gI σ r1) (gI σ r2) (Int32.toNatClampNeg 0) (Int32.toNatClampNeg 0) (Int32.toNatClampNeg (nI (ln r2))))) r5) (Int32.toNatClampNeg 0) (Int32.toNatClampNeg 0) (Int32.toNatClampNeg (nI (ln r5))))) r8 (va_cpy (gI (sA (sA σ r2 (va_cpy (gI σ r1) (gI σ r2) (Int32.toNatClampNeg 0) (Int32.toNatClampNeg 0) (Int32.toNatClampNeg (nI (ln r2))))) r5 (va_cpy (gI (sA σ r2 (va_cpy (gI σ r1) (gI σ r2) (Int32.toNatClampNeg 0) (Int32.toNatClampNeg 0) (Int32.toNatClampNeg (nI (ln r2))))) r4) (gI (sA σ r2 (va_cpy (gI σ r1) (gI σ r2) (Int32.toNatClampNeg 0) (Int32.toNatClampNeg 0) (Int32.toNatClampNeg (nI (ln r2))))) r5) (Int32.toNatClampNeg 0) (Int32.toNatClampNeg 0) (Int32.toNatClampNeg (nI (ln r5))))) r7) (gI (sA (sA σ r2 (va_cpy (gI σ r1) (gI σ r2) (Int32.toNatClampNeg 0) (Int32.toNatClampNeg 0) (Int32.toNatClampNeg (nI (ln r2))))) r5 (va_cpy (gI (sA σ r2 (va_cpy (gI σ r1) (gI σ r2) (Int32.toNatClampNeg 0) (Int32.toNatClampNeg 0) (Int32.toNatClampNeg (nI (ln r2))))) r4) (gI (sA σ r2 (va_cpy (gI σ r1) (gI σ r2) (Int32.toNatClampNeg 0) (Int32.toNatClampNeg 0) (Int32.toNatClampNeg (nI (ln r2))))) r5) (Int32.toNatClampNeg 0) (Int32.toNatClampNeg 0) (Int32.toNatClampNeg (nI (ln r5))))) r8) (Int32.toNatClampNeg 0) (Int32.toNatClampNeg 0) (Int32.toNatClampNeg (nI (ln r8))))) r11 (va_cpy (gI (sA (sA (sA σ r2 (va_cpy (gI σ r1) (gI σ r2) (Int32.toNatClampNeg 0) (Int32.toNatClampNeg 0) (Int32.toNatClampNeg (nI (ln r2))))) r5 (va_cpy (gI (sA σ r2 (va_cpy (gI σ r1) (gI σ r2) (Int32.toNatClampNeg 0) (Int32.toNatClampNeg 0) (Int32.toNatClampNeg (nI (ln r2))))) r4) (gI (sA σ r2 (va_cpy (gI σ r1) (gI σ r2) (Int32.toNatClampNeg 0) (Int32.toNatClampNeg 0) (Int32.toNatClampNeg (nI (ln r2))))) r5) (Int32.toNatClampNeg 0) (Int32.toNatClampNeg 0) (Int32.toNatClampNeg (nI (ln r5))))) r8 (va_cpy (gI (sA (sA σ r2 (va_cpy (gI σ r1) (gI σ r2) (Int32.toNatClampNeg 0) (Int32.toNatClampNeg 0) (Int32.toNatClampNeg (nI (ln r2))))) r5 (va_cpy (gI (sA σ r2 (va_cpy (gI σ r1) (gI σ r2) (Int32.toNatClampNeg 0) (Int32.toNatClampNeg 0) (Int32.toNatClampNeg (nI (ln r2))))) r4) (gI (sA σ r2 (va_cpy (gI σ r1) (gI σ r2) (Int32.toNatClampNeg 0) (Int32.toNatClampNeg 0) (Int32.toNatClampNeg (nI (ln r2))))) r5) (Int32.toNatClampNeg 0) (Int32.toNatClampNeg 0) (Int32.toNatClampNeg (nI (ln r5))))) r7) (gI (sA (sA σ r2 (va_cpy (gI σ r1) (gI σ r2) (Int32.toNatClampNeg 0) (Int32.toNatClampNeg 0) (Int32.toNatClampNeg (nI (ln r2))))) r5 (va_cpy (gI (sA σ r2 (va_cpy (gI σ r1) (gI σ r2) (Int32.toNatClampNeg 0) (Int32.toNatClampNeg 0) (Int32.toNatClampNeg (nI (ln r2))))) r4) (gI (sA σ r2 (va_cpy (gI σ r1) (gI σ r2) (Int32.toNatClampNeg 0) (Int32.toNatClampNeg 0) (Int32.toNatClampNeg (nI (ln r2))))) r5) (Int32.toNatClampNeg 0) (Int32.toNatClampNeg 0) (Int32.toNatClampNeg (nI (ln r5))))) r8) (Int32.toNatClampNeg 0) (Int32.toNatClampNeg 0) (Int32.toNatClampNeg (nI (ln r8))))) r10) (gI (sA (sA (sA σ r2 (va_cpy (gI σ r1) (gI σ r2) (Int32.toNatClampNeg 0) (Int32.toNatClampNeg 0) (Int32.toNatClampNeg (nI (ln r2))))) r5 (va_cpy (gI (sA σ r2 (va_cpy (gI σ r1) (gI σ r2) (Int32.toNatClampNeg 0) (Int32.toNatClampNeg 0) (Int32.toNatClampNeg (nI (ln r2))))) r4) (gI (sA σ r2 (va_cpy (gI σ r1) (gI σ r2) (Int32.toNatClampNeg 0) (Int32.toNatClampNeg 0) (Int32.toNatClampNeg (nI (ln r2))))) r5) (Int32.toNatClampNeg 0) (Int32.toNatClampNeg 0) (Int32.toNatClampNeg (nI (ln r5))))) r8 (va_cpy (gI (sA (sA σ r2 (va_cpy (gI σ r1) (gI σ r2) (Int32.toNatClampNeg 0) (Int32.toNatClampNeg 0) (Int32.toNatClampNeg (nI (ln r2))))) r5 (va_cpy (gI (sA σ r2 (va_cpy (gI σ r1) (gI σ r2) (Int32.toNatClampNeg 0) (Int32.toNatClampNeg 0) (Int32.toNatClampNeg (nI (ln r2))))) r4) (gI (sA σ r2 (va_cpy (gI σ r1) (gI σ r2) (Int32.toNatClampNeg 0) (Int32.toNatClampNeg 0) (Int32.toNatClampNeg (nI (ln r2))))) r5) (Int32.toNatClampNeg 0) (Int32.toNatClampNeg 0) (Int32.toNatClampNeg (nI (ln r5))))) r7) (gI (sA (sA σ r2 (va_cpy (gI σ r1) (gI σ r2) (Int32.toNatClampNeg 0) (Int32.toNatClampNeg 0) (Int32.toNatClampNeg (nI (ln r2))))) r5 (va_cpy (gI (sA σ r2 (va_cpy (gI σ r1) (gI σ r2) (Int32.toNatClampNeg 0) (Int32.toNatClampNeg 0) (Int32.toNatClampNeg (nI (ln r2))))) r4) (gI (sA σ r2 (va_cpy (gI σ r1) (gI σ r2) (Int32.toNatClampNeg 0) (Int32.toNatClampNeg 0) (Int32.toNatClampNeg (nI (ln r2))))) r5) (Int32.toNatClampNeg 0) (Int32.toNatClampNeg 0) (Int32.toNatClampNeg (nI (ln r5))))) r8) (Int32.toNatClampNeg 0) (Int32.toNatClampNeg 0) (Int32.toNatClampNeg (nI (ln r8))))) r11) (Int32.toNatClampNeg 0) (Int32.toNatClampNeg 0) (Int32.toNatClampNeg (nI (ln r11))))) a1 4)) a1 5)) a0 6 (gI (sI (sI (sA (sA (sA (sA σ r2 (va_cpy (gI σ r1) (gI σ r2) (Int32.toNatClampNeg 0) (Int32.toNatClampNeg 0) (Int32.toNatClampNeg (nI (ln r2))))) r5 (va_cpy (gI (sA σ r2 (va_cpy (gI σ r1) (gI σ r2) (Int32.toNatClampNeg 0) (Int32.toNatClampNeg 0) (Int32.toNatClampNeg (nI (ln r2))))) r4) (gI (sA σ r2 (va_cpy (gI σ r1) (gI σ r2) (Int32.toNatClampNeg 0) (Int32.toNatClampNeg 0) (Int32.toNatClampNeg (nI (ln r2))))) r5) (Int32.toNatClampNeg 0) (Int32.toNatClampNeg 0) (Int32.toNatClampNeg (nI (ln r5))))) r8 (va_cpy (gI (sA (sA σ r2 (va_cpy (gI σ r1) (gI σ r2) (Int32.toNatClampNeg 0) (Int32.toNatClampNeg 0) (Int32.toNatClampNeg (nI (ln r2))))) r5 (va_cpy (gI (sA σ r2 (va_cpy (gI σ r1) (gI σ r2) (Int32.toNatClampNeg 0) (Int32.toNatClampNeg 0) (Int32.toNatClampNeg (nI (ln r2))))) r4) (gI (sA σ r2 (va_cpy (gI σ r1) (gI σ r2) (Int32.toNatClampNeg 0) (Int32.toNatClampNeg 0) (Int32.toNatClampNeg (nI (ln r2))))) r5) (Int32.toNatClampNeg 0) (Int32.toNatClampNeg 0) (Int32.toNatClampNeg (nI (ln r5))))) r7) (gI (sA (sA σ r2 (va_cpy (gI σ r1) (gI σ r2) (Int32.toNatClampNeg 0) (Int32.toNatClampNeg 0) (Int32.toNatClampNeg (nI (ln r2))))) r5 (va_cpy (gI (sA σ r2 (va_cpy (gI σ r1) (gI σ r2) (Int32.toNatClampNeg 0) (Int32.toNatClampNeg 0) (Int32.toNatClampNeg (nI (ln r2))))) r4) (gI (sA σ r2 (va_cpy (gI σ r1) (gI σ r2) (Int32.toNatClampNeg 0) (Int32.toNatClampNeg 0) (Int32.toNatClampNeg (nI (ln r2))))) r5) (Int32.toNatClampNeg 0) (Int32.toNatClampNeg 0) (Int32.toNatClampNeg (nI (ln r5))))) r8) (Int32.toNatClampNeg 0) (Int32.toNatClampNeg 0) (Int32.toNatClampNeg (nI (ln r8))))) r11 (va_cpy (gI (sA (sA (sA σ r2 (va_cpy (gI σ r1) (gI σ r2) (Int32.toNatClampNeg 0) (Int32.toNatClampNeg 0) (Int32.toNatClampNeg (nI (ln r2))))) r5 (va_cpy (gI (sA σ r2 (va_cpy (gI σ r1) (gI σ r2) (Int32.toNatClampNeg 0) (Int32.toNatClampNeg 0) (Int32.toNatClampNeg (nI (ln r2))))) r4) (gI (sA σ r2 (va_cpy (gI σ r1) (gI σ r2) (Int32.toNatClampNeg 0) (Int32.toNatClampNeg 0) (Int32.toNatClampNeg (nI (ln r2))))) r5) (Int32.toNatClampNeg 0) (Int32.toNatClampNeg 0) (Int32.toNatClampNeg (nI (ln r5))))) r8 (va_cpy (gI (sA (sA σ r2 (va_cpy (gI σ r1) (gI σ r2) (Int32.toNatClampNeg 0) (Int32.toNatClampNeg 0) (Int32.toNatClampNeg (nI (ln r2))))) r5 (va_cpy (gI (sA σ r2 (va_cpy (gI σ r1) (gI σ r2) (Int32.toNatClampNeg 0) (Int32.toNatClampNeg 0) (Int32.toNatClampNeg (nI (ln r2))))) r4) (gI (sA σ r2 (va_cpy (gI σ r1) (gI σ r2) (Int32.toNatClampNeg 0) (Int32.toNatClampNeg 0) (Int32.toNatClampNeg (nI (ln r2))))) r5) (Int32.toNatClampNeg 0) (Int32.toNatClampNeg 0) (Int32.toNatClampNeg (nI (ln r5))))) r7) (gI (sA (sA σ r2 (va_cpy (gI σ r1) (gI σ r2) (Int32.toNatClampNeg 0) (Int32.toNatClampNeg 0) (Int32.toNatClampNeg (nI (ln r2))))) r5 (va_cpy (gI (sA σ r2 (va_cpy (gI σ r1) (gI σ r2) (Int32.toNatClampNeg 0) (Int32.toNatClampNeg 0) (Int32.toNatClampNeg (nI (ln r2))))) r4) (gI (sA σ r2 (va_cpy (gI σ r1) (gI σ r2) (Int32.toNatClampNeg 0) (Int32.toNatClampNeg 0) (Int32.toNatClampNeg (nI (ln r2))))) r5) (Int32.toNatClampNeg 0) (Int32.toNatClampNeg 0) (Int32.toNatClampNeg (nI (ln r5))))) r8) (Int32.toNatClampNeg 0) (Int32.toNatClampNeg 0) (Int32.toNatClampNeg (nI (ln r8))))) r10) (gI (sA (sA (sA σ r2 (va_cpy (gI σ r1) (gI σ r2) (Int32.toNatClampNeg 0) (Int32.toNatClampNeg 0) (Int32.toNatClampNeg (nI (ln r2))))) r5 (va_cpy (gI (sA σ r2 (va_cpy (gI σ r1) (gI σ r2) (Int32.toNatClampNeg 0) (Int32.toNatClampNeg 0) (Int32.toNatClampNeg (nI (ln r2))))) r4) (gI (sA σ r2 (va_cpy (gI σ r1) (gI σ r2) (Int32.toNatClampNeg 0) (Int32.toNatClampNeg 0) (Int32.toNatClampNeg (nI (ln r2))))) r5) (Int32.toNatClampNeg 0) (Int32.toNatClampNeg 0) (Int32.toNatClampNeg (nI (ln r5))))) r8 (va_cpy (gI (sA (sA σ r2 (va_cpy (gI σ r1) (gI σ r2) (Int32.toNatClampNeg 0) (Int32.toNatClampNeg 0) (Int32.toNatClampNeg (nI (ln r2))))) r5 (va_cpy (gI (sA σ r2 (va_cpy (gI σ r1) (gI σ r2) (Int32.toNatClampNeg 0) (Int32.toNatClampNeg 0) (Int32.toNatClampNeg (nI (ln r2))))) r4) (gI (sA σ r2 (va_cpy (gI σ r1) (gI σ r2) (Int32.toNatClampNeg 0) (Int32.toNatClampNeg 0) (Int32.toNatClampNeg (nI (ln r2))))) r5) (Int32.toNatClampNeg 0) (Int32.toNatClampNeg 0) (Int32.toNatClampNeg (nI (ln r5))))) r7) (gI (sA (sA σ r2 (va_cpy (gI σ r1) (gI σ r2) (Int32.toNatClampNeg 0) (Int32.toNatClampNeg 0) (Int32.toNatClampNeg (nI (ln r2))))) r5 (va_cpy (gI (sA σ r2 (va_cpy (gI σ r1) (gI σ r2) (Int32.toNatClampNeg 0) (Int32.toNatClampNeg 0) (Int32.toNatClampNeg (nI (ln r2))))) r4) (gI (sA σ r2 (va_cpy (gI σ r1) (gI σ r2) (Int32.toNatClampNeg 0) (Int32.toNatClampNeg 0) (Int32.toNatClampNeg (nI (ln r2))))) r5) (Int32.toNatClampNeg 0) (Int32.toNatClampNeg 0) (Int32.toNatClampNeg (nI (ln r5))))) r8) (Int32.toNatClampNeg 0) (Int32.toNatClampNeg 0) (Int32.toNatClampNeg (nI (ln r8))))) r11) (Int32.toNatClampNeg 0) (Int32.toNatClampNeg 0) (Int32.toNatClampNeg (nI (ln r11))))) a0 4 (gI (sA (sA (sA (sA σ r2 (va_cpy (gI σ r1) (gI σ r2) (Int32.toNatClampNeg 0) (Int32.toNatClampNeg 0) (Int32.toNatClampNeg (nI (ln r2))))) r5 (va_cpy (gI (sA σ r2 (va_cpy (gI σ r1) (gI σ r2) (Int32.toNatClampNeg 0) (Int32.toNatClampNeg 0) (Int32.toNatClampNeg (nI (ln r2))))) r4) (gI (sA σ r2 (va_cpy (gI σ r1) (gI σ r2) (Int32.toNatClampNeg 0) (Int32.toNatClampNeg 0) (Int32.toNatClampNeg (nI (ln r2))))) r5) (Int32.toNatClampNeg 0) (Int32.toNatClampNeg 0) (Int32.toNatClampNeg (nI (ln r5))))) r8 (va_cpy (gI (sA (sA σ r2 (va_cpy (gI σ r1) (gI σ r2) (Int32.toNatClampNeg 0) (Int32.toNatClampNeg 0) (Int32.toNatClampNeg (nI (ln r2))))) r5 (va_cpy (gI (sA σ r2 (va_cpy (gI σ r1) (gI σ r2) (Int32.toNatClampNeg 0) (Int32.toNatClampNeg 0) (Int32.toNatClampNeg (nI (ln r2))))) r4) (gI (sA σ r2 (va_cpy (gI σ r1) (gI σ r2) (Int32.toNatClampNeg 0) (Int32.toNatClampNeg 0) (Int32.toNatClampNeg (nI (ln r2))))) r5) (Int32.toNatClampNeg 0) (Int32.toNatClampNeg 0) (Int32.toNatClampNeg (nI (ln r5))))) r7) (gI (sA (sA σ r2 (va_cpy (gI σ r1) (gI σ r2) (Int32.toNatClampNeg 0) (Int32.toNatClampNeg 0) (Int32.toNatClampNeg (nI (ln r2))))) r5 (va_cpy (gI (sA σ r2 (va_cpy (gI σ r1) (gI σ r2) (Int32.toNatClampNeg 0) (Int32.toNatClampNeg 0) (Int32.toNatClampNeg (nI (ln r2))))) r4) (gI (sA σ r2 (va_cpy (gI σ r1) (gI σ r2) (Int32.toNatClampNeg 0) (Int32.toNatClampNeg 0) (Int32.toNatClampNeg (nI (ln r2))))) r5) (Int32.toNatClampNeg 0) (Int32.toNatClampNeg 0) (Int32.toNatClampNeg (nI (ln r5))))) r8) (Int32.toNatClampNeg 0) (Int32.toNatClampNeg 0) (Int32.toNatClampNeg (nI (ln r8))))) r11 (va_cpy (gI (sA (sA (sA σ r2 (va_cpy (gI σ r1) (gI σ r2) (Int32.toNatClampNeg 0) (Int32.toNatClampNeg 0) (Int32.toNatClampNeg (nI (ln r2))))) r5 (va_cpy (gI (sA σ r2 (va_cpy (gI σ r1) (gI σ r2) (Int32.toNatClampNeg 0) (Int32.toNatClampNeg 0) (Int32.toNatClampNeg (nI (ln r2))))) r4) (gI (sA σ r2 (va_cpy (gI σ r1) (gI σ r2) (Int32.toNatClampNeg 0) (Int32.toNatClampNeg 0) (Int32.toNatClampNeg (nI (ln r2))))) r5) (Int32.toNatClampNeg 0) (Int32.toNatClampNeg 0) (Int32.toNatClampNeg (nI (ln r5))))) r8 (va_cpy (gI (sA (sA σ r2 (va_cpy (gI σ r1) (gI σ r2) (Int32.toNatClampNeg 0) (Int32.toNatClampNeg 0) (Int32.toNatClampNeg (nI (ln r2))))) r5 (va_cpy (gI (sA σ r2 (va_cpy (gI σ r1) (gI σ r2) (Int32.toNatClampNeg 0) (Int32.toNatClampNeg 0) (Int32.toNatClampNeg (nI (ln r2))))) r4) (gI (sA σ r2 (va_cpy (gI σ r1) (gI σ r2) (Int32.toNatClampNeg 0) (Int32.toNatClampNeg 0) (Int32.toNatClampNeg (nI (ln r2))))) r5) (Int32.toNatClampNeg 0) (Int32.toNatClampNeg 0) (Int32.toNatClampNeg (nI (ln r5))))) r7) (gI (sA (sA σ r2 (va_cpy (gI σ r1) (gI σ r2) (Int32.toNatClampNeg 0) (Int32.toNatClampNeg 0) (Int32.toNatClampNeg (nI (ln r2))))) r5 (va_cpy (gI (sA σ r2 (va_cpy (gI σ r1) (gI σ r2) (Int32.toNatClampNeg 0) (Int32.toNatClampNeg 0) (Int32.toNatClampNeg (nI (ln r2))))) r4) (gI (sA σ r2 (va_cpy (gI σ r1) (gI σ r2) (Int32.toNatClampNeg 0) (Int32.toNatClampNeg 0) (Int32.toNatClampNeg (nI (ln r2))))) r5) (Int32.toNatClampNeg 0) (Int32.toNatClampNeg 0) (Int32.toNatClampNeg (nI (ln r5))))) r8) (Int32.toNatClampNeg 0) (Int32.toNatClampNeg 0) (Int32.toNatClampNeg (nI (ln r8))))) r10) (gI (sA (sA (sA σ r2 (va_cpy (gI σ r1) (gI σ r2) (Int32.toNatClampNeg 0) (Int32.toNatClampNeg 0) (Int32.toNatClampNeg (nI (ln r2))))) r5 (va_cpy (gI (sA σ r2 (va_cpy (gI σ r1) (gI σ r2) (Int32.toNatClampNeg 0) (Int32.toNatClampNeg 0) (Int32.toNatClampNeg (nI (ln r2))))) r4) (gI (sA σ r2 (va_cpy (gI σ r1) (gI σ r2) (Int32.toNatClampNeg 0) (Int32.toNatClampNeg 0) (Int32.toNatClampNeg (nI (ln r2))))) r5) (Int32.toNatClampNeg 0) (Int32.toNatClampNeg 0) (Int32.toNatClampNeg (nI (ln r5))))) r8 (va_cpy (gI (sA (sA σ r2 (va_cpy (gI σ r1) (gI σ r2) (Int32.toNatClampNeg 0) (Int32.toNatClampNeg 0) (Int32.toNatClampNeg (nI (ln r2))))) r5 (va_cpy (gI (sA σ r2 (va_cpy (gI σ r1) (gI σ r2) (Int32.toNatClampNeg 0) (Int32.toNatClampNeg 0) (Int32.toNatClampNeg (nI (ln r2))))) r4) (gI (sA σ r2 (va_cpy (gI σ r1) (gI σ r2) (Int32.toNatClampNeg 0) (Int32.toNatClampNeg 0) (Int32.toNatClampNeg (nI (ln r2))))) r5) (Int32.toNatClampNeg 0) (Int32.toNatClampNeg 0) (Int32.toNatClampNeg (nI (ln r5))))) r7) (gI (sA (sA σ r2 (va_cpy (gI σ r1) (gI σ r2) (Int32.toNatClampNeg 0) (Int32.toNatClampNeg 0) (Int32.toNatClampNeg (nI (ln r2))))) r5 (va_cpy (gI (sA σ r2 (va_cpy (gI σ r1) (gI σ r2) (Int32.toNatClampNeg 0) (Int32.toNatClampNeg 0) (Int32.toNatClampNeg (nI (ln r2))))) r4) (gI (sA σ r2 (va_cpy (gI σ r1) (gI σ r2) (Int32.toNatClampNeg 0) (Int32.toNatClampNeg 0) (Int32.toNatClampNeg (nI (ln r2))))) r5) (Int32.toNatClampNeg 0) (Int32.toNatClampNeg 0) (Int32.toNatClampNeg (nI (ln r5))))) r8) (Int32.toNatClampNeg 0) (Int32.toNatClampNeg 0) (Int32.toNatClampNeg (nI (ln r8))))) r11) (Int32.toNatClampNeg 0) (Int32.toNatClampNeg 0) (Int32.toNatClampNeg (nI (ln r11))))) a1 4)) a0 5 (gI (sI (sA (sA (sA (sA σ r2 (va_cpy (gI σ r1) (gI σ r2) (Int32.toNatClampNeg 0) (Int32.toNatClampNeg 0) (Int32.toNatClampNeg (nI (ln r2))))) r5 (va_cpy (gI (sA σ r2 (va_cpy (gI σ r1) (gI σ r2) (Int32.toNatClampNeg 0) (Int32.toNatClampNeg 0) (Int32.toNatClampNeg (nI (ln r2))))) r4) (gI (sA σ r2 (va_cpy (gI σ r1) (gI σ r2) (Int32.toNatClampNeg 0) (Int32.toNatClampNeg 0) (Int32.toNatClampNeg (nI (ln r2))))) r5) (Int32.toNatClampNeg 0) (Int32.toNatClampNeg 0) (Int32.toNatClampNeg (nI (ln r5))))) r8 (va_cpy (gI (sA (sA σ r2 (va_cpy (gI σ r1) (gI σ r2) (Int32.toNatClampNeg 0) (Int32.toNatClampNeg 0) (Int32.toNatClampNeg (nI (ln r2))))) r5 (va_cpy (gI (sA σ r2 (va_cpy (gI σ r1) (gI σ r2) (Int32.toNatClampNeg 0) (Int32.toNatClampNeg 0) (Int32.toNatClampNeg (nI (ln r2))))) r4) (gI (sA σ r2 (va_cpy (gI σ r1) (gI σ r2) (Int32.toNatClampNeg 0) (Int32.toNatClampNeg 0) (Int32.toNatClampNeg (nI (ln r2))))) r5) (Int32.toNatClampNeg 0) (Int32.toNatClampNeg 0) (Int32.toNatClampNeg (nI (ln r5))))) r7) (gI (sA (sA σ r2 (va_cpy (gI σ r1) (gI σ r2) (Int32.toNatClampNeg 0) (Int32.toNatClampNeg 0) (Int32.toNatClampNeg (nI (ln r2))))) r5 (va_cpy (gI (sA σ r2 (va_cpy (gI σ r1) (gI σ r2) (Int32.toNatClampNeg 0) (Int32.toNatClampNeg 0) (Int32.toNatClampNeg (nI (ln r2))))) r4) (gI (sA σ r2 (va_cpy (gI σ r1) (gI σ r2) (Int32.toNatClampNeg 0) (Int32.toNatClampNeg 0) (Int32.toNatClampNeg (nI (ln r2))))) r5) (Int32.toNatClampNeg 0) (Int32.toNatClampNeg 0) (Int32.toNatClampNeg (nI (ln r5))))) r8) (Int32.toNatClampNeg 0) (Int32.toNatClampNeg 0) (Int32.toNatClampNeg (nI (ln r8))))) r11 (va_cpy (gI (sA (sA (sA σ r2 (va_cpy (gI σ r1) (gI σ r2) (Int32.toNatClampNeg 0) (Int32.toNatClampNeg 0) (Int32.toNatClampNeg (nI (ln r2))))) r5 (va_cpy (gI (sA σ r2 (va_cpy (gI σ r1) (gI σ r2) (Int32.toNatClampNeg 0) (Int32.toNatClampNeg 0) (Int32.toNatClampNeg (nI (ln r2))))) r4) (gI (sA σ r2 (va_cpy (gI σ r1) (gI σ r2) (Int32.toNatClampNeg 0) (Int32.toNatClampNeg 0) (Int32.toNatClampNeg (nI (ln r2))))) r5) (Int32.toNatClampNeg 0) (Int32.toNatClampNeg 0) (Int32.toNatClampNeg (nI (ln r5))))) r8 (va_cpy (gI (sA (sA σ r2 (va_cpy (gI σ r1) (gI σ r2) (Int32.toNatClampNeg 0) (Int32.toNatClampNeg 0) (Int32.toNatClampNeg (nI (ln r2))))) r5 (va_cpy (gI (sA σ r2 (va_cpy (gI σ r1) (gI σ r2) (Int32.toNatClampNeg 0) (Int32.toNatClampNeg 0) (Int32.toNatClampNeg (nI (ln r2))))) r4) (gI (sA σ r2 (va_cpy (gI σ r1) (gI σ r2) (Int32.toNatClampNeg 0) (Int32.toNatClampNeg 0) (Int32.toNatClampNeg (nI (ln r2))))) r5) (Int32.toNatClampNeg 0) (Int32.toNatClampNeg 0) (Int32.toNatClampNeg (nI (ln r5))))) r7) (gI (sA (sA σ r2 (va_cpy (gI σ r1) (gI σ r2) (Int32.toNatClampNeg 0) (Int32.toNatClampNeg 0) (Int32.toNatClampNeg (nI (ln r2))))) r5 (va_cpy (gI (sA σ r2 (va_cpy (gI σ r1) (gI σ r2) (Int32.toNatClampNeg 0) (Int32.toNatClampNeg 0) (Int32.toNatClampNeg (nI (ln r2))))) r4) (gI (sA σ r2 (va_cpy (gI σ r1) (gI σ r2) (Int32.toNatClampNeg 0) (Int32.toNatClampNeg 0) (Int32.toNatClampNeg (nI (ln r2))))) r5) (Int32.toNatClampNeg 0) (Int32.toNatClampNeg 0) (Int32.toNatClampNeg (nI (ln r5))))) r8) (Int32.toNatClampNeg 0) (Int32.toNatClampNeg 0) (Int32.toNatClampNeg (nI (ln r8))))) r10) (gI (sA (sA (sA σ r2 (va_cpy (gI σ r1) (gI σ r2) (Int32.toNatClampNeg 0) (Int32.toNatClampNeg 0) (Int32.toNatClampNeg (nI (ln r2))))) r5 (va_cpy (gI (sA σ r2 (va_cpy (gI σ r1) (gI σ r2) (Int32.toNatClampNeg 0) (Int32.toNatClampNeg 0) (Int32.toNatClampNeg (nI (ln r2))))) r4) (gI (sA σ r2 (va_cpy (gI σ r1) (gI σ r2) (Int32.toNatClampNeg 0) (Int32.toNatClampNeg 0) (Int32.toNatClampNeg (nI (ln r2))))) r5) (Int32.toNatClampNeg 0) (Int32.toNatClampNeg 0) (Int32.toNatClampNeg (nI (ln r5))))) r8 (va_cpy (gI (sA (sA σ r2 (va_cpy (gI σ r1) (gI σ r2) (Int32.toNatClampNeg 0) (Int32.toNatClampNeg 0) (Int32.toNatClampNeg (nI (ln r2))))) r5 (va_cpy (gI (sA σ r2 (va_cpy (gI σ r1) (gI σ r2) (Int32.toNatClampNeg 0) (Int32.toNatClampNeg 0) (Int32.toNatClampNeg (nI (ln r2))))) r4) (gI (sA σ r2 (va_cpy (gI σ r1) (gI σ r2) (Int32.toNatClampNeg 0) (Int32.toNatClampNeg 0) (Int32.toNatClampNeg (nI (ln r2))))) r5) (Int32.toNatClampNeg 0) (Int32.toNatClampNeg 0) (Int32.toNatClampNeg (nI (ln r5))))) r7) (gI (sA (sA σ r2 (va_cpy (gI σ r1) (gI σ r2) (Int32.toNatClampNeg 0) (Int32.toNatClampNeg 0) (Int32.toNatClampNeg (nI (ln r2))))) r5 (va_cpy (gI (sA σ r2 (va_cpy (gI σ r1) (gI σ r2) (Int32.toNatClampNeg 0) (Int32.toNatClampNeg 0) (Int32.toNatClampNeg (nI (ln r2))))) r4) (gI (sA σ r2 (va_cpy (gI σ r1) (gI σ r2) (Int32.toNatClampNeg 0) (Int32.toNatClampNeg 0) (Int32.toNatClampNeg (nI (ln r2))))) r5) (Int32.toNatClampNeg 0) (Int32.toNatClampNeg 0) (Int32.toNatClampNeg (nI (ln r5))))) r8) (Int32.toNatClampNeg 0) (Int32.toNatClampNeg 0) (Int32.toNatClampNeg (nI (ln r8))))) r11) (Int32.toNatClampNeg 0) (Int32.toNatClampNeg 0) (Int32.toNatClampNeg (nI (ln r11))))) a0 4 (gI (sA (sA (sA (sA σ r2 (va_cpy (gI σ r1) (gI σ r2) (Int32.toNatClampNeg 0) (Int32.toNatClampNeg 0) (Int32.toNatClampNeg (nI (ln r2))))) r5 (va_cpy (gI (sA σ r2 (va_cpy (gI σ r1) (gI σ r2) (Int32.toNatClampNeg 0) (Int32.toNatClampNeg 0) (Int32.toNatClampNeg (nI (ln r2))))) r4) (gI (sA σ r2 (va_cpy (gI σ r1) (gI σ r2) (Int32.toNatClampNeg 0) (Int32.toNatClampNeg 0) (Int32.toNatClampNeg (nI (ln r2))))) r5) (Int32.toNatClampNeg 0) (Int32.toNatClampNeg 0) (Int32.toNatClampNeg (nI (ln r5))))) r8 (va_cpy (gI (sA (sA σ r2 (va_cpy (gI σ r1) (gI σ r2) (Int32.toNatClampNeg 0) (Int32.toNatClampNeg 0) (Int32.toNatClampNeg (nI (ln r2))))) r5 (va_cpy (gI (sA σ r2 (va_cpy (gI σ r1) (gI σ r2) (Int32.toNatClampNeg 0) (Int32.toNatClampNeg 0) (Int32.toNatClampNeg (nI (ln r2))))) r4) (gI (sA σ r2 (va_cpy (gI σ r1) (gI σ r2) (Int32.toNatClampNeg 0) (Int32.toNatClampNeg 0) (Int32.toNatClampNeg (nI (ln r2))))) r5) (Int32.toNatClampNeg 0) (Int32.toNatClampNeg 0) (Int32.toNatClampNeg (nI (ln r5))))) r7) (gI (sA (sA σ r2 (va_cpy (gI σ r1) (gI σ r2) (Int32.toNatClampNeg 0) (Int32.toNatClampNeg 0) (Int32.toNatClampNeg (nI (ln r2))))) r5 (va_cpy (gI (sA σ r2 (va_cpy (gI σ r1) (gI σ r2) (Int32.toNatClampNeg 0) (Int32.toNatClampNeg 0) (Int32.toNatClampNeg (nI (ln r2))))) r4) (gI (sA σ r2 (va_cpy (gI σ r1) (gI σ r2) (Int32.toNatClampNeg 0) (Int32.toNatClampNeg 0) (Int32.toNatClampNeg (nI (ln r2))))) r5) (Int32.toNatClampNeg 0) (Int32.toNatClampNeg 0) (Int32.toNatClampNeg (nI (ln r5))))) r8) (Int32.toNatClampNeg 0) (Int32.toNatClampNeg 0) (Int32.toNatClampNeg (nI (ln r8))))) r11 (va_cpy (gI (sA (sA (sA σ r2 (va_cpy (gI σ r1) (gI σ r2) (Int32.toNatClampNeg 0) (Int32.toNatClampNeg 0) (Int32.toNatClampNeg (nI (ln r2))))) r5 (va_cpy (gI (sA σ r2 (va_cpy (gI σ r1) (gI σ r2) (Int32.toNatClampNeg 0) (Int32.toNatClampNeg 0) (Int32.toNatClampNeg (nI (ln r2))))) r4) (gI (sA σ r2 (va_cpy (gI σ r1) (gI σ r2) (Int32.toNatClampNeg 0) (Int32.toNatClampNeg 0) (Int32.toNatClampNeg (nI (ln r2))))) r5) (Int32.toNatClampNeg 0) (Int32.toNatClampNeg 0) (Int32.toNatClampNeg (nI (ln r5))))) r8 (va_cpy (gI (sA (sA σ r2 (va_cpy (gI σ r1) (gI σ r2) (Int32.toNatClampNeg 0) (Int32.toNatClampNeg 0) (Int32.toNatClampNeg (nI (ln r2))))) r5 (va_cpy (gI (sA σ r2 (va_cpy (gI σ r1) (gI σ r2) (Int32.toNatClampNeg 0) (Int32.toNatClampNeg 0) (Int32.toNatClampNeg (nI (ln r2))))) r4) (gI (sA σ r2 (va_cpy (gI σ r1) (gI σ r2) (Int32.toNatClampNeg 0) (Int32.toNatClampNeg 0) (Int32.toNatClampNeg (nI (ln r2))))) r5) (Int32.toNatClampNeg 0) (Int32.toNatClampNeg 0) (Int32.toNatClampNeg (nI (ln r5))))) r7) (gI (sA (sA σ r2 (va_cpy (gI σ r1) (gI σ r2) (Int32.toNatClampNeg 0) (Int32.toNatClampNeg 0) (Int32.toNatClampNeg (nI (ln r2))))) r5 (va_cpy (gI (sA σ r2 (va_cpy (gI σ r1) (gI σ r2) (Int32.toNatClampNeg 0) (Int32.toNatClampNeg 0) (Int32.toNatClampNeg (nI (ln r2))))) r4) (gI (sA σ r2 (va_cpy (gI σ r1) (gI σ r2) (Int32.toNatClampNeg 0) (Int32.toNatClampNeg 0) (Int32.toNatClampNeg (nI (ln r2))))) r5) (Int32.toNatClampNeg 0) (Int32.toNatClampNeg 0) (Int32.toNatClampNeg (nI (ln r5))))) r8) (Int32.toNatClampNeg 0) (Int32.toNatClampNeg 0) (Int32.toNatClampNeg (nI (ln r8))))) r10) (gI (sA (sA (sA σ r2 (va_cpy (gI σ r1) (gI σ r2) (Int32.toNatClampNeg 0) (Int32.toNatClampNeg 0) (Int32.toNatClampNeg (nI (ln r2))))) r5 (va_cpy (gI (sA σ r2 (va_cpy (gI σ r1) (gI σ r2) (Int32.toNatClampNeg 0) (Int32.toNatClampNeg 0) (Int32.toNatClampNeg (nI (ln r2))))) r4) (gI (sA σ r2 (va_cpy (gI σ r1) (gI σ r2) (Int32.toNatClampNeg 0) (Int32.toNatClampNeg 0) (Int32.toNatClampNeg (nI (ln r2))))) r5) (Int32.toNatClampNeg 0) (Int32.toNatClampNeg 0) (Int32.toNatClampNeg (nI (ln r5))))) r8 (va_cpy (gI (sA (sA σ r2 (va_cpy (gI σ r1) (gI σ r2) (Int32.toNatClampNeg 0) (Int32.toNatClampNeg 0) (Int32.toNatClampNeg (nI (ln r2))))) r5 (va_cpy (gI (sA σ r2 (va_cpy (gI σ r1) (gI σ r2) (Int32.toNatClampNeg 0) (Int32.toNatClampNeg 0) (Int32.toNatClampNeg (nI (ln r2))))) r4) (gI (sA σ r2 (va_cpy (gI σ r1) (gI σ r2) (Int32.toNatClampNeg 0) (Int32.toNatClampNeg 0) (Int32.toNatClampNeg (nI (ln r2))))) r5) (Int32.toNatClampNeg 0) (Int32.toNatClampNeg 0) (Int32.toNatClampNeg (nI (ln r5))))) r7) (gI (sA (sA σ r2 (va_cpy (gI σ r1) (gI σ r2) (Int32.toNatClampNeg 0) (Int32.toNatClampNeg 0) (Int32.toNatClampNeg (nI (ln r2))))) r5 (va_cpy (gI (sA σ r2 (va_cpy (gI σ r1) (gI σ r2) (Int32.toNatClampNeg 0) (Int32.toNatClampNeg 0) (Int32.toNatClampNeg (nI (ln r2))))) r4) (gI (sA σ r2 (va_cpy (gI σ r1) (gI σ r2) (Int32.toNatClampNeg 0) (Int32.toNatClampNeg 0) (Int32.toNatClampNeg (nI (ln r2))))) r5) (Int32.toNatClampNeg 0) (Int32.toNatClampNeg 0) (Int32.toNatClampNeg (nI (ln r5))))) r8) (Int32.toNatClampNeg 0) (Int32.toNatClampNeg 0) (Int32.toNatClampNeg (nI (ln r8))))) r11) (Int32.toNatClampNeg 0) (Int32.toNatClampNeg 0) (Int32.toNatClampNeg (nI (ln r11))))) a1 4)) a1 5)) a1 6)) else none else none else none else none
set_option maxRecDepth 20000 in
set_option maxHeartbeats 2000000 in
theorem tX6_takeFrom {X : XS} {n : Nat} {σ : Mm} {a0 : Nat} {a1 : Nat} (ha0 : RT n a0 106) (ha1 : RT n a1 106) {res : Mm} (h : fX6_takeFrom a0 a1 σ = some res) : MT X yX6_takeFrom mX6_takeFrom 1 0 0 [.ref a0, .ref a1] n σ (n, none, res) := by
  unfold fX6_takeFrom at h
  refine MT_of (by decide +kernel) rfl (fun h => by cases h) (Nat.le_of_ble_eq_true rfl) ?_
  show J X mX6_takeFrom 1 0 0 (n, none, res) 0 [(0, .ref a0), (1, .ref a1)] [] n σ
  refine J_aload_n (z := 1) dX6_takeFrom_0 rfl rfl (q := 1) rfl ?_
  obtain ⟨r1, er1, h⟩ := bindS h
  refine J_getR dX6_takeFrom_1 lRX6_9 ha1 rfl (by decide) er1 (q := 4) rfl (fun fr1 => ?_)
  refine J_iconst (x := 0) dX6_takeFrom_4 (by decide) (q := 5) rfl ?_
  refine J_aload_n (z := 0) dX6_takeFrom_5 rfl rfl (q := 6) rfl ?_
  obtain ⟨r2, er2, h⟩ := bindS h
  refine J_getR dX6_takeFrom_6 lRX6_9 ha0 rfl (by decide) er2 (q := 9) rfl (fun fr2 => ?_)
  refine J_iconst (x := 0) dX6_takeFrom_9 (by decide) (q := 10) rfl ?_
  refine J_aload_n (z := 0) dX6_takeFrom_10 rfl rfl (q := 11) rfl ?_
  refine J_getR dX6_takeFrom_11 lRX6_9 ha0 rfl (by decide) er2 (q := 14) rfl (fun _ => ?_)
  refine J_alen (t := 0) dX6_takeFrom_14 fr2 (by decide) rfl (q := 15) rfl ?_
  obtain ⟨g3, h⟩ := iteS h
  refine J_copy dX6_takeFrom_15 cpRX6_24 fr1 fr2 g3 (Nat.le_of_ble_eq_true rfl) (Nat.le_of_ble_eq_true rfl) (q := 18) rfl ?_
  refine J_aload_n (z := 1) dX6_takeFrom_18 rfl rfl (q := 19) rfl ?_
  obtain ⟨r4, er4, h⟩ := bindS h
  refine J_getR dX6_takeFrom_19 lRX6_15 ha1 rfl (by decide) er4 (q := 22) rfl (fun fr4 => ?_)
  refine J_iconst (x := 0) dX6_takeFrom_22 (by decide) (q := 23) rfl ?_
  refine J_aload_n (z := 0) dX6_takeFrom_23 rfl rfl (q := 24) rfl ?_
  obtain ⟨r5, er5, h⟩ := bindS h
  refine J_getR dX6_takeFrom_24 lRX6_15 ha0 rfl (by decide) er5 (q := 27) rfl (fun fr5 => ?_)
  refine J_iconst (x := 0) dX6_takeFrom_27 (by decide) (q := 28) rfl ?_
  refine J_aload_n (z := 0) dX6_takeFrom_28 rfl rfl (q := 29) rfl ?_
  refine J_getR dX6_takeFrom_29 lRX6_15 ha0 rfl (by decide) er5 (q := 32) rfl (fun _ => ?_)
  refine J_alen (t := 0) dX6_takeFrom_32 fr5 (by decide) rfl (q := 33) rfl ?_
  obtain ⟨g6, h⟩ := iteS h
  refine J_copy dX6_takeFrom_33 cpRX6_24 fr4 fr5 g6 (Nat.le_of_ble_eq_true rfl) (Nat.le_of_ble_eq_true rfl) (q := 36) rfl ?_
  refine J_aload_n (z := 1) dX6_takeFrom_36 rfl rfl (q := 37) rfl ?_
  obtain ⟨r7, er7, h⟩ := bindS h
  refine J_getR dX6_takeFrom_37 lRX6_18 ha1 rfl (by decide) er7 (q := 40) rfl (fun fr7 => ?_)
  refine J_iconst (x := 0) dX6_takeFrom_40 (by decide) (q := 41) rfl ?_
  refine J_aload_n (z := 0) dX6_takeFrom_41 rfl rfl (q := 42) rfl ?_
  obtain ⟨r8, er8, h⟩ := bindS h
  refine J_getR dX6_takeFrom_42 lRX6_18 ha0 rfl (by decide) er8 (q := 45) rfl (fun fr8 => ?_)
  refine J_iconst (x := 0) dX6_takeFrom_45 (by decide) (q := 46) rfl ?_
  refine J_aload_n (z := 0) dX6_takeFrom_46 rfl rfl (q := 47) rfl ?_
  refine J_getR dX6_takeFrom_47 lRX6_18 ha0 rfl (by decide) er8 (q := 50) rfl (fun _ => ?_)
  refine J_alen (t := 0) dX6_takeFrom_50 fr8 (by decide) rfl (q := 51) rfl ?_
  obtain ⟨g9, h⟩ := iteS h
  refine J_copy dX6_takeFrom_51 cpRX6_24 fr7 fr8 g9 (Nat.le_of_ble_eq_true rfl) (Nat.le_of_ble_eq_true rfl) (q := 54) rfl ?_
  refine J_aload_n (z := 1) dX6_takeFrom_54 rfl rfl (q := 55) rfl ?_
  obtain ⟨r10, er10, h⟩ := bindS h
  refine J_getR dX6_takeFrom_55 lRX6_21 ha1 rfl (by decide) er10 (q := 58) rfl (fun fr10 => ?_)
  refine J_iconst (x := 0) dX6_takeFrom_58 (by decide) (q := 59) rfl ?_
  refine J_aload_n (z := 0) dX6_takeFrom_59 rfl rfl (q := 60) rfl ?_
  obtain ⟨r11, er11, h⟩ := bindS h
  refine J_getR dX6_takeFrom_60 lRX6_21 ha0 rfl (by decide) er11 (q := 63) rfl (fun fr11 => ?_)
  refine J_iconst (x := 0) dX6_takeFrom_63 (by decide) (q := 64) rfl ?_
  refine J_aload_n (z := 0) dX6_takeFrom_64 rfl rfl (q := 65) rfl ?_
  refine J_getR dX6_takeFrom_65 lRX6_21 ha0 rfl (by decide) er11 (q := 68) rfl (fun _ => ?_)
  refine J_alen (t := 0) dX6_takeFrom_68 fr11 (by decide) rfl (q := 69) rfl ?_
  obtain ⟨g12, h⟩ := iteS h
  refine J_copy dX6_takeFrom_69 cpRX6_24 fr10 fr11 g12 (Nat.le_of_ble_eq_true rfl) (Nat.le_of_ble_eq_true rfl) (q := 72) rfl ?_
  refine J_aload_n (z := 0) dX6_takeFrom_72 rfl rfl (q := 73) rfl ?_
  refine J_aload_n (z := 1) dX6_takeFrom_73 rfl rfl (q := 74) rfl ?_
  refine J_getI dX6_takeFrom_74 lRX6_30 ha1 rfl (q := 77) rfl ?_
  refine J_putI dX6_takeFrom_77 lRX6_30 (fun h => by cases h) ha0 rfl (q := 80) rfl ?_
  refine J_aload_n (z := 0) dX6_takeFrom_80 rfl rfl (q := 81) rfl ?_
  refine J_aload_n (z := 1) dX6_takeFrom_81 rfl rfl (q := 82) rfl ?_
  refine J_getI dX6_takeFrom_82 lRX6_34 ha1 rfl (q := 85) rfl ?_
  refine J_putI dX6_takeFrom_85 lRX6_34 (fun h => by cases h) ha0 rfl (q := 88) rfl ?_
  refine J_aload_n (z := 0) dX6_takeFrom_88 rfl rfl (q := 89) rfl ?_
  refine J_aload_n (z := 1) dX6_takeFrom_89 rfl rfl (q := 90) rfl ?_
  refine J_getI dX6_takeFrom_90 lRX6_37 ha1 rfl (q := 93) rfl ?_
  refine J_putI dX6_takeFrom_93 lRX6_37 (fun h => by cases h) ha0 rfl (q := 96) rfl ?_
  have h := Option.some.inj h
  subst h
  exact J_return dX6_takeFrom_96 rfl rfl

def fX1_hasPage (a0 : Nat) (a1 : Int32) (σ : Mm) : Option (Int32) :=
  if a1 < 0 then some 0 else if (gI σ a0 4) ≤ a1 then some 0 else some 1
set_option maxRecDepth 20000 in
set_option maxHeartbeats 2000000 in
theorem tX1_hasPage {X : XS} {n : Nat} {σ : Mm} {a0 : Nat} {a1 : Int32} (ha0 : RT n a0 101) {res : Int32} (h : fX1_hasPage a0 a1 σ = some res) : MT X yX1_hasPage mX1_hasPage 1 0 0 [.ref a0, .int a1] n σ (n, some (.int res), σ) := by
  unfold fX1_hasPage at h
  refine MT_of (by decide +kernel) rfl (fun h => by cases h) (Nat.le_of_ble_eq_true rfl) ?_
  show J X mX1_hasPage 1 0 0 (n, some (.int res), σ) 0 [(0, .ref a0), (1, .int a1)] [] n σ
  refine J_iload_n (z := 1) dX1_hasPage_0 rfl rfl (q := 1) rfl ?_
  refine J_if_lt (tgt := 16) dX1_hasPage_1 (by decide) (q := 4) rfl (fun c0 => ?_) (fun c0 => ?_)
  · rw [if_pos c0] at h
    refine J_iconst (x := 0) dX1_hasPage_16 (by decide) (q := 17) rfl ?_
    have h := Option.some.inj h
    subst h
    exact J_ireturn dX1_hasPage_17 rfl rfl rfl
  · rw [if_neg c0] at h
    refine J_iload_n (z := 1) dX1_hasPage_4 rfl rfl (q := 5) rfl ?_
    refine J_aload_n (z := 0) dX1_hasPage_5 rfl rfl (q := 6) rfl ?_
    refine J_getI dX1_hasPage_6 lRX1_31 ha0 rfl (q := 9) rfl ?_
    refine J_icmp_ge (tgt := 16) dX1_hasPage_9 (by decide) (q := 12) rfl (fun c1 => ?_) (fun c1 => ?_)
    · rw [if_pos c1] at h
      refine J_iconst (x := 0) dX1_hasPage_16 (by decide) (q := 17) rfl ?_
      have h := Option.some.inj h
      subst h
      exact J_ireturn dX1_hasPage_17 rfl rfl rfl
    · rw [if_neg c1] at h
      refine J_iconst (x := 1) dX1_hasPage_12 (by decide) (q := 13) rfl ?_
      refine J_goto (tgt := 17) dX1_hasPage_13 (by decide) ?_
      have h := Option.some.inj h
      subst h
      exact J_ireturn dX1_hasPage_17 rfl rfl rfl

def fX1_hasReader (a0 : Nat) (a1 : Int32) (σ : Mm) : Option (Int32) :=
  if a1 < 0 then some 0 else if (gI σ a0 5) ≤ a1 then some 0 else some 1
set_option maxRecDepth 20000 in
set_option maxHeartbeats 2000000 in
theorem tX1_hasReader {X : XS} {n : Nat} {σ : Mm} {a0 : Nat} {a1 : Int32} (ha0 : RT n a0 101) {res : Int32} (h : fX1_hasReader a0 a1 σ = some res) : MT X yX1_hasReader mX1_hasReader 1 0 0 [.ref a0, .int a1] n σ (n, some (.int res), σ) := by
  unfold fX1_hasReader at h
  refine MT_of (by decide +kernel) rfl (fun h => by cases h) (Nat.le_of_ble_eq_true rfl) ?_
  show J X mX1_hasReader 1 0 0 (n, some (.int res), σ) 0 [(0, .ref a0), (1, .int a1)] [] n σ
  refine J_iload_n (z := 1) dX1_hasReader_0 rfl rfl (q := 1) rfl ?_
  refine J_if_lt (tgt := 16) dX1_hasReader_1 (by decide) (q := 4) rfl (fun c0 => ?_) (fun c0 => ?_)
  · rw [if_pos c0] at h
    refine J_iconst (x := 0) dX1_hasReader_16 (by decide) (q := 17) rfl ?_
    have h := Option.some.inj h
    subst h
    exact J_ireturn dX1_hasReader_17 rfl rfl rfl
  · rw [if_neg c0] at h
    refine J_iload_n (z := 1) dX1_hasReader_4 rfl rfl (q := 5) rfl ?_
    refine J_aload_n (z := 0) dX1_hasReader_5 rfl rfl (q := 6) rfl ?_
    refine J_getI dX1_hasReader_6 lRX1_35 ha0 rfl (q := 9) rfl ?_
    refine J_icmp_ge (tgt := 16) dX1_hasReader_9 (by decide) (q := 12) rfl (fun c1 => ?_) (fun c1 => ?_)
    · rw [if_pos c1] at h
      refine J_iconst (x := 0) dX1_hasReader_16 (by decide) (q := 17) rfl ?_
      have h := Option.some.inj h
      subst h
      exact J_ireturn dX1_hasReader_17 rfl rfl rfl
    · rw [if_neg c1] at h
      refine J_iconst (x := 1) dX1_hasReader_12 (by decide) (q := 13) rfl ?_
      refine J_goto (tgt := 17) dX1_hasReader_13 (by decide) ?_
      have h := Option.some.inj h
      subst h
      exact J_ireturn dX1_hasReader_17 rfl rfl rfl

def fX1_pageItem_b32 (a0 : Nat) (a1 : Int32) (a2 : Int32) (z0 : Int32) (σ : Mm) : Option (Int32) :=
  if z0 = 0 then some (-1) else (gR σ a0 2).bind fun r3 => if ixB ((a1 * 4) + a2) (ln r3) = true then some (gI σ r3 (Int32.toNatClampNeg ((a1 * 4) + a2))) else none
set_option maxRecDepth 20000 in
set_option maxHeartbeats 2000000 in
theorem tX1_pageItem_b32 {X : XS} {n : Nat} {σ : Mm} {a0 : Nat} {a1 : Int32} {a2 : Int32} {z0 : Int32} (ha0 : RT n a0 101) {res : Int32} (h : fX1_pageItem_b32 a0 a1 a2 z0 σ = some res) : J X mX1_pageItem 1 0 0 (n, some (.int res), σ) 32 [(0, .ref a0), (1, .int a1), (2, .int a2)] [.int z0] n σ := by
  unfold fX1_pageItem_b32 at h
  refine J_istore_n (lv' := [(3, .int z0), (0, .ref a0), (1, .int a1), (2, .int a2)]) dX1_pageItem_32 rfl (by decide) rfl (q := 33) rfl ?_
  refine J_iload_n (z := 0) dX1_pageItem_33 rfl rfl (q := 34) rfl ?_
  refine J_if_eq (tgt := 50) dX1_pageItem_34 (by decide) (q := 37) rfl (fun c1 => ?_) (fun c1 => ?_)
  · rw [if_pos c1] at h
    refine J_iconst (x := (-1)) dX1_pageItem_50 (by decide) (q := 51) rfl ?_
    have h := Option.some.inj h
    subst h
    exact J_ireturn dX1_pageItem_51 rfl rfl rfl
  · rw [if_neg c1] at h
    refine J_aload_n (z := 1) dX1_pageItem_37 rfl rfl (q := 38) rfl ?_
    obtain ⟨r3, er3, h⟩ := bindS h
    refine J_getR dX1_pageItem_38 lRX1_15 ha0 rfl (by decide) er3 (q := 41) rfl (fun fr3 => ?_)
    refine J_iload_n (z := 2) dX1_pageItem_41 rfl rfl (q := 42) rfl ?_
    refine J_iconst (x := 4) dX1_pageItem_42 (by decide) (q := 43) rfl ?_
    refine J_imul dX1_pageItem_43  (q := 44) rfl ?_
    refine J_iload_n (z := 3) dX1_pageItem_44 rfl rfl (q := 45) rfl ?_
    refine J_iadd dX1_pageItem_45  (q := 46) rfl ?_
    obtain ⟨g4, h⟩ := iteS h
    refine J_iald dX1_pageItem_46 fr3 (ixB_ok g4) (q := 47) rfl ?_
    refine J_goto (tgt := 51) dX1_pageItem_47 (by decide) ?_
    have h := Option.some.inj h
    subst h
    exact J_ireturn dX1_pageItem_51 rfl rfl rfl

def fX1_pageItem_b31 (a0 : Nat) (a1 : Int32) (a2 : Int32) (σ : Mm) : Option (Int32) :=
  fX1_pageItem_b32 a0 a1 a2 0 σ
set_option maxRecDepth 20000 in
set_option maxHeartbeats 2000000 in
theorem tX1_pageItem_b31 {X : XS} {n : Nat} {σ : Mm} {a0 : Nat} {a1 : Int32} {a2 : Int32} (ha0 : RT n a0 101) {res : Int32} (h : fX1_pageItem_b31 a0 a1 a2 σ = some res) : J X mX1_pageItem 1 0 0 (n, some (.int res), σ) 31 [(0, .ref a0), (1, .int a1), (2, .int a2)] [] n σ := by
  unfold fX1_pageItem_b31 at h
  refine J_iconst (x := 0) dX1_pageItem_31 (by decide) (q := 32) rfl ?_
  refine J_pick [0, 1, 2] rfl ?_
  exact tX1_pageItem_b32 ha0 h

def fX1_pageItem (a0 : Nat) (a1 : Int32) (a2 : Int32) (σ : Mm) : Option (Int32) :=
  if a1 < 0 then fX1_pageItem_b31 a0 a1 a2 σ else if 12 ≤ a1 then fX1_pageItem_b31 a0 a1 a2 σ else if (gI σ a0 4) ≤ a1 then fX1_pageItem_b31 a0 a1 a2 σ else if a2 < 0 then fX1_pageItem_b31 a0 a1 a2 σ else if 4 ≤ a2 then fX1_pageItem_b31 a0 a1 a2 σ else fX1_pageItem_b32 a0 a1 a2 1 σ
set_option maxRecDepth 20000 in
set_option maxHeartbeats 2000000 in
theorem tX1_pageItem {X : XS} {n : Nat} {σ : Mm} {a0 : Nat} {a1 : Int32} {a2 : Int32} (ha0 : RT n a0 101) {res : Int32} (h : fX1_pageItem a0 a1 a2 σ = some res) : MT X yX1_pageItem mX1_pageItem 1 0 0 [.ref a0, .int a1, .int a2] n σ (n, some (.int res), σ) := by
  unfold fX1_pageItem at h
  refine MT_of (by decide +kernel) rfl (fun h => by cases h) (Nat.le_of_ble_eq_true rfl) ?_
  show J X mX1_pageItem 1 0 0 (n, some (.int res), σ) 0 [(0, .ref a0), (1, .int a1), (2, .int a2)] [] n σ
  refine J_iload_n (z := 1) dX1_pageItem_0 rfl rfl (q := 1) rfl ?_
  refine J_if_lt (tgt := 31) dX1_pageItem_1 (by decide) (q := 4) rfl (fun c0 => ?_) (fun c0 => ?_)
  · rw [if_pos c0] at h
    refine J_pick [0, 1, 2] rfl ?_
    exact tX1_pageItem_b31 ha0 h
  · rw [if_neg c0] at h
    refine J_iload_n (z := 1) dX1_pageItem_4 rfl rfl (q := 5) rfl ?_
    refine J_bipush (x := 12) dX1_pageItem_5 (by decide) (q := 7) rfl ?_
    refine J_icmp_ge (tgt := 31) dX1_pageItem_7 (by decide) (q := 10) rfl (fun c4 => ?_) (fun c4 => ?_)
    · rw [if_pos c4] at h
      refine J_pick [0, 1, 2] rfl ?_
      exact tX1_pageItem_b31 ha0 h
    · rw [if_neg c4] at h
      refine J_iload_n (z := 1) dX1_pageItem_10 rfl rfl (q := 11) rfl ?_
      refine J_aload_n (z := 0) dX1_pageItem_11 rfl rfl (q := 12) rfl ?_
      refine J_getI dX1_pageItem_12 lRX1_31 ha0 rfl (q := 15) rfl ?_
      refine J_icmp_ge (tgt := 31) dX1_pageItem_15 (by decide) (q := 18) rfl (fun c5 => ?_) (fun c5 => ?_)
      · rw [if_pos c5] at h
        refine J_pick [0, 1, 2] rfl ?_
        exact tX1_pageItem_b31 ha0 h
      · rw [if_neg c5] at h
        refine J_iload_n (z := 2) dX1_pageItem_18 rfl rfl (q := 19) rfl ?_
        refine J_if_lt (tgt := 31) dX1_pageItem_19 (by decide) (q := 22) rfl (fun c6 => ?_) (fun c6 => ?_)
        · rw [if_pos c6] at h
          refine J_pick [0, 1, 2] rfl ?_
          exact tX1_pageItem_b31 ha0 h
        · rw [if_neg c6] at h
          refine J_iload_n (z := 2) dX1_pageItem_22 rfl rfl (q := 23) rfl ?_
          refine J_iconst (x := 4) dX1_pageItem_23 (by decide) (q := 24) rfl ?_
          refine J_icmp_ge (tgt := 31) dX1_pageItem_24 (by decide) (q := 27) rfl (fun c7 => ?_) (fun c7 => ?_)
          · rw [if_pos c7] at h
            refine J_pick [0, 1, 2] rfl ?_
            exact tX1_pageItem_b31 ha0 h
          · rw [if_neg c7] at h
            refine J_iconst (x := 1) dX1_pageItem_27 (by decide) (q := 28) rfl ?_
            refine J_goto (tgt := 32) dX1_pageItem_28 (by decide) ?_
            refine J_pick [0, 1, 2] rfl ?_
            exact tX1_pageItem_b32 ha0 h

def fX1_pageCell (a0 : Nat) (a1 : Int32) (σ : Mm) : Option (Int32) :=
  (fX1_pageItem a0 a1 0 σ).bind fun vk1 => some vk1
set_option maxRecDepth 20000 in
set_option maxHeartbeats 2000000 in
theorem tX1_pageCell {X : XS} {n : Nat} {σ : Mm} {a0 : Nat} {a1 : Int32} (ha0 : RT n a0 101) {res : Int32} (h : fX1_pageCell a0 a1 σ = some res) : MT X yX1_pageCell mX1_pageCell 2 0 0 [.ref a0, .int a1] n σ (n, some (.int res), σ) := by
  unfold fX1_pageCell at h
  refine MT_of (by decide +kernel) rfl (fun h => by cases h) (Nat.le_of_ble_eq_true rfl) ?_
  show J X mX1_pageCell 2 0 0 (n, some (.int res), σ) 0 [(0, .ref a0), (1, .int a1)] [] n σ
  refine J_aload_n (z := 0) dX1_pageCell_0 rfl rfl (q := 1) rfl ?_
  refine J_iload_n (z := 1) dX1_pageCell_1 rfl rfl (q := 2) rfl ?_
  refine J_iconst (x := 0) dX1_pageCell_2 (by decide) (q := 3) rfl ?_
  obtain ⟨vk1, hk1, h⟩ := bindS h
  refine J_cVi (as := [.int a1, .int 0]) dX1_pageCell_3 mRX1_42 ha0 (tX1_pageItem ha0 hk1) rfl (Nat.le_of_ble_eq_true rfl) (Nat.le_of_ble_eq_true rfl) (Nat.le_of_ble_eq_true rfl) (q := 6) rfl ?_
  intro bk1
  have h := Option.some.inj h
  subst h
  exact J_ireturn dX1_pageCell_6 rfl rfl rfl

def fX6_isMemory (a0 : Int32) (a1 : Int32) (σ : Mm) : Option (Int32) :=
  if a0 < 0 then some 0 else if 6 ≤ a0 then some 0 else if a1 < 0 then some 0 else if 12 ≤ a1 then some 0 else some 1
set_option maxRecDepth 20000 in
set_option maxHeartbeats 2000000 in
theorem tX6_isMemory {X : XS} {n : Nat} {σ : Mm} {a0 : Int32} {a1 : Int32} {res : Int32} (h : fX6_isMemory a0 a1 σ = some res) : MT X yX6_isMemory mX6_isMemory 1 0 0 [.int a0, .int a1] n σ (n, some (.int res), σ) := by
  unfold fX6_isMemory at h
  refine MT_of (by decide +kernel) rfl (fun h => by cases h) (Nat.le_of_ble_eq_true rfl) ?_
  show J X mX6_isMemory 1 0 0 (n, some (.int res), σ) 0 [(0, .int a0), (1, .int a1)] [] n σ
  refine J_iload_n (z := 0) dX6_isMemory_0 rfl rfl (q := 1) rfl ?_
  refine J_if_lt (tgt := 24) dX6_isMemory_1 (by decide) (q := 4) rfl (fun c0 => ?_) (fun c0 => ?_)
  · rw [if_pos c0] at h
    refine J_iconst (x := 0) dX6_isMemory_24 (by decide) (q := 25) rfl ?_
    have h := Option.some.inj h
    subst h
    exact J_ireturn dX6_isMemory_25 rfl rfl rfl
  · rw [if_neg c0] at h
    refine J_iload_n (z := 0) dX6_isMemory_4 rfl rfl (q := 5) rfl ?_
    refine J_bipush (x := 6) dX6_isMemory_5 (by decide) (q := 7) rfl ?_
    refine J_icmp_ge (tgt := 24) dX6_isMemory_7 (by decide) (q := 10) rfl (fun c1 => ?_) (fun c1 => ?_)
    · rw [if_pos c1] at h
      refine J_iconst (x := 0) dX6_isMemory_24 (by decide) (q := 25) rfl ?_
      have h := Option.some.inj h
      subst h
      exact J_ireturn dX6_isMemory_25 rfl rfl rfl
    · rw [if_neg c1] at h
      refine J_iload_n (z := 1) dX6_isMemory_10 rfl rfl (q := 11) rfl ?_
      refine J_if_lt (tgt := 24) dX6_isMemory_11 (by decide) (q := 14) rfl (fun c2 => ?_) (fun c2 => ?_)
      · rw [if_pos c2] at h
        refine J_iconst (x := 0) dX6_isMemory_24 (by decide) (q := 25) rfl ?_
        have h := Option.some.inj h
        subst h
        exact J_ireturn dX6_isMemory_25 rfl rfl rfl
      · rw [if_neg c2] at h
        refine J_iload_n (z := 1) dX6_isMemory_14 rfl rfl (q := 15) rfl ?_
        refine J_bipush (x := 12) dX6_isMemory_15 (by decide) (q := 17) rfl ?_
        refine J_icmp_ge (tgt := 24) dX6_isMemory_17 (by decide) (q := 20) rfl (fun c3 => ?_) (fun c3 => ?_)
        · rw [if_pos c3] at h
          refine J_iconst (x := 0) dX6_isMemory_24 (by decide) (q := 25) rfl ?_
          have h := Option.some.inj h
          subst h
          exact J_ireturn dX6_isMemory_25 rfl rfl rfl
        · rw [if_neg c3] at h
          refine J_iconst (x := 1) dX6_isMemory_20 (by decide) (q := 21) rfl ?_
          refine J_goto (tgt := 25) dX6_isMemory_21 (by decide) ?_
          have h := Option.some.inj h
          subst h
          exact J_ireturn dX6_isMemory_25 rfl rfl rfl

def fX6_learn (a0 : Nat) (a1 : Int32) (a2 : Int32) (a3 : Int32) (σ : Mm) : Option (Mm) :=
  (fX6_isMemory a1 a2 σ).bind fun vk1 => if vk1 = 0 then some σ else (gR σ a0 3).bind fun r3 => if ixB ((a1 * 12) + a2) (ln r3) = true then some (sI σ r3 (Int32.toNatClampNeg ((a1 * 12) + a2)) a3) else none
set_option maxRecDepth 20000 in
set_option maxHeartbeats 2000000 in
theorem tX6_learn {X : XS} {n : Nat} {σ : Mm} {a0 : Nat} {a1 : Int32} {a2 : Int32} {a3 : Int32} (ha0 : RT n a0 106) {res : Mm} (h : fX6_learn a0 a1 a2 a3 σ = some res) : MT X yX6_learn mX6_learn 2 0 0 [.ref a0, .int a1, .int a2, .int a3] n σ (n, none, res) := by
  unfold fX6_learn at h
  refine MT_of (by decide +kernel) rfl (fun h => by cases h) (Nat.le_of_ble_eq_true rfl) ?_
  show J X mX6_learn 2 0 0 (n, none, res) 0 [(0, .ref a0), (1, .int a1), (2, .int a2), (3, .int a3)] [] n σ
  refine J_iload_n (z := 1) dX6_learn_0 rfl rfl (q := 1) rfl ?_
  refine J_iload_n (z := 2) dX6_learn_1 rfl rfl (q := 2) rfl ?_
  obtain ⟨vk1, hk1, h⟩ := bindS h
  refine J_cSi (as := [.int a1, .int a2]) dX6_learn_2 mRX6_69 (tX6_isMemory  hk1) rfl (Nat.le_of_ble_eq_true rfl) (Nat.le_of_ble_eq_true rfl) (Nat.le_of_ble_eq_true rfl) (q := 5) rfl ?_
  intro bk1
  refine J_if_eq (tgt := 20) dX6_learn_5 (by decide) (q := 8) rfl (fun c1 => ?_) (fun c1 => ?_)
  · rw [if_pos c1] at h
    have h := Option.some.inj h
    subst h
    exact J_return dX6_learn_20 rfl rfl
  · rw [if_neg c1] at h
    refine J_aload_n (z := 0) dX6_learn_8 rfl rfl (q := 9) rfl ?_
    obtain ⟨r3, er3, h⟩ := bindS h
    refine J_getR dX6_learn_9 lRX6_21 ha0 rfl (by decide) er3 (q := 12) rfl (fun fr3 => ?_)
    refine J_iload_n (z := 1) dX6_learn_12 rfl rfl (q := 13) rfl ?_
    refine J_bipush (x := 12) dX6_learn_13 (by decide) (q := 15) rfl ?_
    refine J_imul dX6_learn_15  (q := 16) rfl ?_
    refine J_iload_n (z := 2) dX6_learn_16 rfl rfl (q := 17) rfl ?_
    refine J_iadd dX6_learn_17  (q := 18) rfl ?_
    refine J_iload_n (z := 3) dX6_learn_18 rfl rfl (q := 19) rfl ?_
    obtain ⟨g4, h⟩ := iteS h
    refine J_iast dX6_learn_19 fr3 (ixB_ok g4) (q := 20) rfl ?_
    have h := Option.some.inj h
    subst h
    exact J_return dX6_learn_20 rfl rfl

def fX6_recall (a0 : Nat) (a1 : Int32) (a2 : Int32) (σ : Mm) : Option (Int32) :=
  (fX6_isMemory a1 a2 σ).bind fun vk1 => if vk1 = 0 then some (-1) else (gR σ a0 3).bind fun r3 => if ixB ((a1 * 12) + a2) (ln r3) = true then some (gI σ r3 (Int32.toNatClampNeg ((a1 * 12) + a2))) else none
set_option maxRecDepth 20000 in
set_option maxHeartbeats 2000000 in
theorem tX6_recall {X : XS} {n : Nat} {σ : Mm} {a0 : Nat} {a1 : Int32} {a2 : Int32} (ha0 : RT n a0 106) {res : Int32} (h : fX6_recall a0 a1 a2 σ = some res) : MT X yX6_recall mX6_recall 2 0 0 [.ref a0, .int a1, .int a2] n σ (n, some (.int res), σ) := by
  unfold fX6_recall at h
  refine MT_of (by decide +kernel) rfl (fun h => by cases h) (Nat.le_of_ble_eq_true rfl) ?_
  show J X mX6_recall 2 0 0 (n, some (.int res), σ) 0 [(0, .ref a0), (1, .int a1), (2, .int a2)] [] n σ
  refine J_iload_n (z := 1) dX6_recall_0 rfl rfl (q := 1) rfl ?_
  refine J_iload_n (z := 2) dX6_recall_1 rfl rfl (q := 2) rfl ?_
  obtain ⟨vk1, hk1, h⟩ := bindS h
  refine J_cSi (as := [.int a1, .int a2]) dX6_recall_2 mRX6_69 (tX6_isMemory  hk1) rfl (Nat.le_of_ble_eq_true rfl) (Nat.le_of_ble_eq_true rfl) (Nat.le_of_ble_eq_true rfl) (q := 5) rfl ?_
  intro bk1
  refine J_if_eq (tgt := 22) dX6_recall_5 (by decide) (q := 8) rfl (fun c1 => ?_) (fun c1 => ?_)
  · rw [if_pos c1] at h
    refine J_iconst (x := (-1)) dX6_recall_22 (by decide) (q := 23) rfl ?_
    have h := Option.some.inj h
    subst h
    exact J_ireturn dX6_recall_23 rfl rfl rfl
  · rw [if_neg c1] at h
    refine J_aload_n (z := 0) dX6_recall_8 rfl rfl (q := 9) rfl ?_
    obtain ⟨r3, er3, h⟩ := bindS h
    refine J_getR dX6_recall_9 lRX6_21 ha0 rfl (by decide) er3 (q := 12) rfl (fun fr3 => ?_)
    refine J_iload_n (z := 1) dX6_recall_12 rfl rfl (q := 13) rfl ?_
    refine J_bipush (x := 12) dX6_recall_13 (by decide) (q := 15) rfl ?_
    refine J_imul dX6_recall_15  (q := 16) rfl ?_
    refine J_iload_n (z := 2) dX6_recall_16 rfl rfl (q := 17) rfl ?_
    refine J_iadd dX6_recall_17  (q := 18) rfl ?_
    obtain ⟨g4, h⟩ := iteS h
    refine J_iald dX6_recall_18 fr3 (ixB_ok g4) (q := 19) rfl ?_
    refine J_goto (tgt := 23) dX6_recall_19 (by decide) ?_
    have h := Option.some.inj h
    subst h
    exact J_ireturn dX6_recall_23 rfl rfl rfl

def fX6_lose (a0 : Nat) (a1 : Int32) (a2 : Int32) (σ : Mm) : Option (Int32 × Mm) :=
  if a1 < 0 then some (0, σ) else if a1 < 12 then (gR σ a0 0).bind fun r3 => if ixB a1 (ln r3) = true then if ixB a1 (ln r3) = true then if ixB a1 (ln r3) = true then some ((minI (gI σ r3 (Int32.toNatClampNeg a1)) a2), (sI σ r3 (Int32.toNatClampNeg a1) ((gI σ r3 (Int32.toNatClampNeg a1)) - (minI (gI σ r3 (Int32.toNatClampNeg a1)) a2)))) else none else none else none else some (0, σ)
set_option maxRecDepth 20000 in
set_option maxHeartbeats 2000000 in
theorem tX6_lose {X : XS} {n : Nat} {σ : Mm} {a0 : Nat} {a1 : Int32} {a2 : Int32} (ha0 : RT n a0 106) {res : Int32 × Mm} (h : fX6_lose a0 a1 a2 σ = some res) : MT X yX6_lose mX6_lose 1 0 0 [.ref a0, .int a1, .int a2] n σ (n, some (.int res.1), res.2) := by
  unfold fX6_lose at h
  refine MT_of (by decide +kernel) rfl (fun h => by cases h) (Nat.le_of_ble_eq_true rfl) ?_
  show J X mX6_lose 1 0 0 (n, some (.int res.1), res.2) 0 [(0, .ref a0), (1, .int a1), (2, .int a2)] [] n σ
  refine J_iload_n (z := 1) dX6_lose_0 rfl rfl (q := 1) rfl ?_
  refine J_if_lt (tgt := 10) dX6_lose_1 (by decide) (q := 4) rfl (fun c0 => ?_) (fun c0 => ?_)
  · rw [if_pos c0] at h
    refine J_iconst (x := 0) dX6_lose_10 (by decide) (q := 11) rfl ?_
    have h := Option.some.inj h
    subst h
    exact J_ireturn dX6_lose_11 rfl rfl rfl
  · rw [if_neg c0] at h
    refine J_iload_n (z := 1) dX6_lose_4 rfl rfl (q := 5) rfl ?_
    refine J_bipush (x := 12) dX6_lose_5 (by decide) (q := 7) rfl ?_
    refine J_icmp_lt (tgt := 12) dX6_lose_7 (by decide) (q := 10) rfl (fun c1 => ?_) (fun c1 => ?_)
    · rw [if_pos c1] at h
      refine J_aload_n (z := 0) dX6_lose_12 rfl rfl (q := 13) rfl ?_
      obtain ⟨r3, er3, h⟩ := bindS h
      refine J_getR dX6_lose_13 lRX6_9 ha0 rfl (by decide) er3 (q := 16) rfl (fun fr3 => ?_)
      refine J_iload_n (z := 1) dX6_lose_16 rfl rfl (q := 17) rfl ?_
      obtain ⟨g4, h⟩ := iteS h
      refine J_iald dX6_lose_17 fr3 (ixB_ok g4) (q := 18) rfl ?_
      refine J_iload_n (z := 2) dX6_lose_18 rfl rfl (q := 19) rfl ?_
      refine J_mmin dX6_lose_19 pRX6_77 q_static_mmin q_init_math q_code_mmin (Nat.le_of_ble_eq_true rfl) (Nat.le_of_ble_eq_true rfl) (q := 22) rfl ?_
      refine J_istore_n (lv' := [(3, .int (minI (gI σ r3 (Int32.toNatClampNeg a1)) a2)), (0, .ref a0), (1, .int a1), (2, .int a2)]) dX6_lose_22 rfl (by decide) rfl (q := 23) rfl ?_
      refine J_aload_n (z := 1) dX6_lose_23 rfl rfl (q := 24) rfl ?_
      refine J_getR dX6_lose_24 lRX6_9 ha0 rfl (by decide) er3 (q := 27) rfl (fun _ => ?_)
      refine J_iload_n (z := 2) dX6_lose_27 rfl rfl (q := 28) rfl ?_
      refine J_dup2 dX6_lose_28 rfl rfl (q := 29) rfl ?_
      obtain ⟨g5, h⟩ := iteS h
      refine J_iald dX6_lose_29 fr3 (ixB_ok g5) (q := 30) rfl ?_
      refine J_iload_n (z := 0) dX6_lose_30 rfl rfl (q := 31) rfl ?_
      refine J_isub dX6_lose_31  (q := 32) rfl ?_
      obtain ⟨g6, h⟩ := iteS h
      refine J_iast dX6_lose_32 fr3 (ixB_ok g6) (q := 33) rfl ?_
      refine J_iload_n (z := 0) dX6_lose_33 rfl rfl (q := 34) rfl ?_
      have h := Option.some.inj h
      subst h
      exact J_ireturn dX6_lose_34 rfl rfl rfl
    · rw [if_neg c1] at h
      refine J_iconst (x := 0) dX6_lose_10 (by decide) (q := 11) rfl ?_
      have h := Option.some.inj h
      subst h
      exact J_ireturn dX6_lose_11 rfl rfl rfl

def fX1_readerItem_b32 (a0 : Nat) (a1 : Int32) (a2 : Int32) (z0 : Int32) (σ : Mm) : Option (Int32) :=
  if z0 = 0 then some (-1) else (gR σ a0 3).bind fun r3 => if ixB ((a1 * 4) + a2) (ln r3) = true then some (gI σ r3 (Int32.toNatClampNeg ((a1 * 4) + a2))) else none
set_option maxRecDepth 20000 in
set_option maxHeartbeats 2000000 in
theorem tX1_readerItem_b32 {X : XS} {n : Nat} {σ : Mm} {a0 : Nat} {a1 : Int32} {a2 : Int32} {z0 : Int32} (ha0 : RT n a0 101) {res : Int32} (h : fX1_readerItem_b32 a0 a1 a2 z0 σ = some res) : J X mX1_readerItem 1 0 0 (n, some (.int res), σ) 32 [(0, .ref a0), (1, .int a1), (2, .int a2)] [.int z0] n σ := by
  unfold fX1_readerItem_b32 at h
  refine J_istore_n (lv' := [(3, .int z0), (0, .ref a0), (1, .int a1), (2, .int a2)]) dX1_readerItem_32 rfl (by decide) rfl (q := 33) rfl ?_
  refine J_iload_n (z := 0) dX1_readerItem_33 rfl rfl (q := 34) rfl ?_
  refine J_if_eq (tgt := 50) dX1_readerItem_34 (by decide) (q := 37) rfl (fun c1 => ?_) (fun c1 => ?_)
  · rw [if_pos c1] at h
    refine J_iconst (x := (-1)) dX1_readerItem_50 (by decide) (q := 51) rfl ?_
    have h := Option.some.inj h
    subst h
    exact J_ireturn dX1_readerItem_51 rfl rfl rfl
  · rw [if_neg c1] at h
    refine J_aload_n (z := 1) dX1_readerItem_37 rfl rfl (q := 38) rfl ?_
    obtain ⟨r3, er3, h⟩ := bindS h
    refine J_getR dX1_readerItem_38 lRX1_18 ha0 rfl (by decide) er3 (q := 41) rfl (fun fr3 => ?_)
    refine J_iload_n (z := 2) dX1_readerItem_41 rfl rfl (q := 42) rfl ?_
    refine J_iconst (x := 4) dX1_readerItem_42 (by decide) (q := 43) rfl ?_
    refine J_imul dX1_readerItem_43  (q := 44) rfl ?_
    refine J_iload_n (z := 3) dX1_readerItem_44 rfl rfl (q := 45) rfl ?_
    refine J_iadd dX1_readerItem_45  (q := 46) rfl ?_
    obtain ⟨g4, h⟩ := iteS h
    refine J_iald dX1_readerItem_46 fr3 (ixB_ok g4) (q := 47) rfl ?_
    refine J_goto (tgt := 51) dX1_readerItem_47 (by decide) ?_
    have h := Option.some.inj h
    subst h
    exact J_ireturn dX1_readerItem_51 rfl rfl rfl

def fX1_readerItem_b31 (a0 : Nat) (a1 : Int32) (a2 : Int32) (σ : Mm) : Option (Int32) :=
  fX1_readerItem_b32 a0 a1 a2 0 σ
set_option maxRecDepth 20000 in
set_option maxHeartbeats 2000000 in
theorem tX1_readerItem_b31 {X : XS} {n : Nat} {σ : Mm} {a0 : Nat} {a1 : Int32} {a2 : Int32} (ha0 : RT n a0 101) {res : Int32} (h : fX1_readerItem_b31 a0 a1 a2 σ = some res) : J X mX1_readerItem 1 0 0 (n, some (.int res), σ) 31 [(0, .ref a0), (1, .int a1), (2, .int a2)] [] n σ := by
  unfold fX1_readerItem_b31 at h
  refine J_iconst (x := 0) dX1_readerItem_31 (by decide) (q := 32) rfl ?_
  refine J_pick [0, 1, 2] rfl ?_
  exact tX1_readerItem_b32 ha0 h

def fX1_readerItem (a0 : Nat) (a1 : Int32) (a2 : Int32) (σ : Mm) : Option (Int32) :=
  if a1 < 0 then fX1_readerItem_b31 a0 a1 a2 σ else if 6 ≤ a1 then fX1_readerItem_b31 a0 a1 a2 σ else if (gI σ a0 5) ≤ a1 then fX1_readerItem_b31 a0 a1 a2 σ else if a2 < 0 then fX1_readerItem_b31 a0 a1 a2 σ else if 4 ≤ a2 then fX1_readerItem_b31 a0 a1 a2 σ else fX1_readerItem_b32 a0 a1 a2 1 σ
set_option maxRecDepth 20000 in
set_option maxHeartbeats 2000000 in
theorem tX1_readerItem {X : XS} {n : Nat} {σ : Mm} {a0 : Nat} {a1 : Int32} {a2 : Int32} (ha0 : RT n a0 101) {res : Int32} (h : fX1_readerItem a0 a1 a2 σ = some res) : MT X yX1_readerItem mX1_readerItem 1 0 0 [.ref a0, .int a1, .int a2] n σ (n, some (.int res), σ) := by
  unfold fX1_readerItem at h
  refine MT_of (by decide +kernel) rfl (fun h => by cases h) (Nat.le_of_ble_eq_true rfl) ?_
  show J X mX1_readerItem 1 0 0 (n, some (.int res), σ) 0 [(0, .ref a0), (1, .int a1), (2, .int a2)] [] n σ
  refine J_iload_n (z := 1) dX1_readerItem_0 rfl rfl (q := 1) rfl ?_
  refine J_if_lt (tgt := 31) dX1_readerItem_1 (by decide) (q := 4) rfl (fun c0 => ?_) (fun c0 => ?_)
  · rw [if_pos c0] at h
    refine J_pick [0, 1, 2] rfl ?_
    exact tX1_readerItem_b31 ha0 h
  · rw [if_neg c0] at h
    refine J_iload_n (z := 1) dX1_readerItem_4 rfl rfl (q := 5) rfl ?_
    refine J_bipush (x := 6) dX1_readerItem_5 (by decide) (q := 7) rfl ?_
    refine J_icmp_ge (tgt := 31) dX1_readerItem_7 (by decide) (q := 10) rfl (fun c4 => ?_) (fun c4 => ?_)
    · rw [if_pos c4] at h
      refine J_pick [0, 1, 2] rfl ?_
      exact tX1_readerItem_b31 ha0 h
    · rw [if_neg c4] at h
      refine J_iload_n (z := 1) dX1_readerItem_10 rfl rfl (q := 11) rfl ?_
      refine J_aload_n (z := 0) dX1_readerItem_11 rfl rfl (q := 12) rfl ?_
      refine J_getI dX1_readerItem_12 lRX1_35 ha0 rfl (q := 15) rfl ?_
      refine J_icmp_ge (tgt := 31) dX1_readerItem_15 (by decide) (q := 18) rfl (fun c5 => ?_) (fun c5 => ?_)
      · rw [if_pos c5] at h
        refine J_pick [0, 1, 2] rfl ?_
        exact tX1_readerItem_b31 ha0 h
      · rw [if_neg c5] at h
        refine J_iload_n (z := 2) dX1_readerItem_18 rfl rfl (q := 19) rfl ?_
        refine J_if_lt (tgt := 31) dX1_readerItem_19 (by decide) (q := 22) rfl (fun c6 => ?_) (fun c6 => ?_)
        · rw [if_pos c6] at h
          refine J_pick [0, 1, 2] rfl ?_
          exact tX1_readerItem_b31 ha0 h
        · rw [if_neg c6] at h
          refine J_iload_n (z := 2) dX1_readerItem_22 rfl rfl (q := 23) rfl ?_
          refine J_iconst (x := 4) dX1_readerItem_23 (by decide) (q := 24) rfl ?_
          refine J_icmp_ge (tgt := 31) dX1_readerItem_24 (by decide) (q := 27) rfl (fun c7 => ?_) (fun c7 => ?_)
          · rw [if_pos c7] at h
            refine J_pick [0, 1, 2] rfl ?_
            exact tX1_readerItem_b31 ha0 h
          · rw [if_neg c7] at h
            refine J_iconst (x := 1) dX1_readerItem_27 (by decide) (q := 28) rfl ?_
            refine J_goto (tgt := 32) dX1_readerItem_28 (by decide) ?_
            refine J_pick [0, 1, 2] rfl ?_
            exact tX1_readerItem_b32 ha0 h

def fX1_breath (a0 : Nat) (a1 : Int32) (σ : Mm) : Option (Int32) :=
  (fX1_readerItem a0 a1 1 σ).bind fun vk1 => some vk1
set_option maxRecDepth 20000 in
set_option maxHeartbeats 2000000 in
theorem tX1_breath {X : XS} {n : Nat} {σ : Mm} {a0 : Nat} {a1 : Int32} (ha0 : RT n a0 101) {res : Int32} (h : fX1_breath a0 a1 σ = some res) : MT X yX1_breath mX1_breath 2 0 0 [.ref a0, .int a1] n σ (n, some (.int res), σ) := by
  unfold fX1_breath at h
  refine MT_of (by decide +kernel) rfl (fun h => by cases h) (Nat.le_of_ble_eq_true rfl) ?_
  show J X mX1_breath 2 0 0 (n, some (.int res), σ) 0 [(0, .ref a0), (1, .int a1)] [] n σ
  refine J_aload_n (z := 0) dX1_breath_0 rfl rfl (q := 1) rfl ?_
  refine J_iload_n (z := 1) dX1_breath_1 rfl rfl (q := 2) rfl ?_
  refine J_iconst (x := 1) dX1_breath_2 (by decide) (q := 3) rfl ?_
  obtain ⟨vk1, hk1, h⟩ := bindS h
  refine J_cVi (as := [.int a1, .int 1]) dX1_breath_3 mRX1_46 ha0 (tX1_readerItem ha0 hk1) rfl (Nat.le_of_ble_eq_true rfl) (Nat.le_of_ble_eq_true rfl) (Nat.le_of_ble_eq_true rfl) (q := 6) rfl ?_
  intro bk1
  have h := Option.some.inj h
  subst h
  exact J_ireturn dX1_breath_6 rfl rfl rfl

def fX1_width (a0 : Nat) (σ : Mm) : Option (Int32) :=
  (gR σ a0 1).bind fun r1 => if ixB 0 (ln r1) = true then some (gI σ r1 (Int32.toNatClampNeg 0)) else none
set_option maxRecDepth 20000 in
set_option maxHeartbeats 2000000 in
theorem tX1_width {X : XS} {n : Nat} {σ : Mm} {a0 : Nat} (ha0 : RT n a0 101) {res : Int32} (h : fX1_width a0 σ = some res) : MT X yX1_width mX1_width 1 0 0 [.ref a0] n σ (n, some (.int res), σ) := by
  unfold fX1_width at h
  refine MT_of (by decide +kernel) rfl (fun h => by cases h) (Nat.le_of_ble_eq_true rfl) ?_
  show J X mX1_width 1 0 0 (n, some (.int res), σ) 0 [(0, .ref a0)] [] n σ
  refine J_aload_n (z := 0) dX1_width_0 rfl rfl (q := 1) rfl ?_
  obtain ⟨r1, er1, h⟩ := bindS h
  refine J_getR dX1_width_1 lRX1_9 ha0 rfl (by decide) er1 (q := 4) rfl (fun fr1 => ?_)
  refine J_iconst (x := 0) dX1_width_4 (by decide) (q := 5) rfl ?_
  obtain ⟨g2, h⟩ := iteS h
  refine J_iald dX1_width_5 fr1 (ixB_ok g2) (q := 6) rfl ?_
  have h := Option.some.inj h
  subst h
  exact J_ireturn dX1_width_6 rfl rfl rfl

def fX1_steps (a0 : Nat) (a1 : Int32) (a2 : Int32) (σ : Mm) : Option (Int32) :=
  (fX1_width a0 σ).bind fun vk1 => if 1 ≤ vk1 then if vk1 = 0 then none else if vk1 = 0 then none else if vk1 = 0 then none else if vk1 = 0 then none else some ((absI ((a1 / vk1) - (a2 / vk1))) + (absI ((remI a1 vk1) - (remI a2 vk1)))) else some 0
set_option maxRecDepth 20000 in
set_option maxHeartbeats 2000000 in
theorem tX1_steps {X : XS} {n : Nat} {σ : Mm} {a0 : Nat} {a1 : Int32} {a2 : Int32} (ha0 : RT n a0 101) {res : Int32} (h : fX1_steps a0 a1 a2 σ = some res) : MT X yX1_steps mX1_steps 2 0 0 [.ref a0, .int a1, .int a2] n σ (n, some (.int res), σ) := by
  unfold fX1_steps at h
  refine MT_of (by decide +kernel) rfl (fun h => by cases h) (Nat.le_of_ble_eq_true rfl) ?_
  show J X mX1_steps 2 0 0 (n, some (.int res), σ) 0 [(0, .ref a0), (1, .int a1), (2, .int a2)] [] n σ
  refine J_aload_n (z := 0) dX1_steps_0 rfl rfl (q := 1) rfl ?_
  obtain ⟨vk1, hk1, h⟩ := bindS h
  refine J_cVi (as := []) dX1_steps_1 mRX1_53 ha0 (tX1_width ha0 hk1) rfl (Nat.le_of_ble_eq_true rfl) (Nat.le_of_ble_eq_true rfl) (Nat.le_of_ble_eq_true rfl) (q := 4) rfl ?_
  intro bk1
  refine J_istore_n (lv' := [(3, .int vk1), (0, .ref a0), (1, .int a1), (2, .int a2)]) dX1_steps_4 rfl (by decide) rfl (q := 5) rfl ?_
  refine J_iload_n (z := 0) dX1_steps_5 rfl rfl (q := 6) rfl ?_
  refine J_iconst (x := 1) dX1_steps_6 (by decide) (q := 7) rfl ?_
  refine J_icmp_ge (tgt := 12) dX1_steps_7 (by decide) (q := 10) rfl (fun c1 => ?_) (fun c1 => ?_)
  · rw [if_pos c1] at h
    refine J_iload_n (z := 2) dX1_steps_12 rfl rfl (q := 13) rfl ?_
    refine J_iload_n (z := 0) dX1_steps_13 rfl rfl (q := 14) rfl ?_
    obtain ⟨g3, h⟩ := iteN h
    refine J_idiv dX1_steps_14 g3 (q := 15) rfl ?_
    refine J_iload_n (z := 3) dX1_steps_15 rfl rfl (q := 16) rfl ?_
    refine J_iload_n (z := 0) dX1_steps_16 rfl rfl (q := 17) rfl ?_
    obtain ⟨g4, h⟩ := iteN h
    refine J_idiv dX1_steps_17 g4 (q := 18) rfl ?_
    refine J_isub dX1_steps_18  (q := 19) rfl ?_
    refine J_mabs dX1_steps_19 pRX1_56 q_static_mabs q_init_math q_code_mabs (Nat.le_of_ble_eq_true rfl) (Nat.le_of_ble_eq_true rfl) (q := 22) rfl ?_
    refine J_iload_n (z := 2) dX1_steps_22 rfl rfl (q := 23) rfl ?_
    refine J_iload_n (z := 0) dX1_steps_23 rfl rfl (q := 24) rfl ?_
    obtain ⟨g5, h⟩ := iteN h
    refine J_irem dX1_steps_24 g5 (q := 25) rfl ?_
    refine J_iload_n (z := 3) dX1_steps_25 rfl rfl (q := 26) rfl ?_
    refine J_iload_n (z := 0) dX1_steps_26 rfl rfl (q := 27) rfl ?_
    obtain ⟨g6, h⟩ := iteN h
    refine J_irem dX1_steps_27 g6 (q := 28) rfl ?_
    refine J_isub dX1_steps_28  (q := 29) rfl ?_
    refine J_mabs dX1_steps_29 pRX1_56 q_static_mabs q_init_math q_code_mabs (Nat.le_of_ble_eq_true rfl) (Nat.le_of_ble_eq_true rfl) (q := 32) rfl ?_
    refine J_iadd dX1_steps_32  (q := 33) rfl ?_
    have h := Option.some.inj h
    subst h
    exact J_ireturn dX1_steps_33 rfl rfl rfl
  · rw [if_neg c1] at h
    refine J_iconst (x := 0) dX1_steps_10 (by decide) (q := 11) rfl ?_
    have h := Option.some.inj h
    subst h
    exact J_ireturn dX1_steps_11 rfl rfl rfl

def fX3_joined_b214 (a3 : Int64) (σ : Mm) : Option (Int32) :=
  if (lg_cmp a3 1000000) ≤ 0 then if 0 ≤ (lg_cmp a3 (-1000000)) then some (Int64.toInt32 a3) else some (-1000000) else some 1000000
set_option maxRecDepth 20000 in
set_option maxHeartbeats 2000000 in
theorem tX3_joined_b214 {X : XS} {n : Nat} {σ : Mm} {a3 : Int64} {res : Int32} (h : fX3_joined_b214 a3 σ = some res) : J X mX3_joined 1 0 0 (n, some (.int res), σ) 214 [(3, .long a3)] [] n σ := by
  unfold fX3_joined_b214 at h
  refine J_lload_n (z := 0) dX3_joined_214 rfl rfl (q := 215) rfl ?_
  refine J_ldc2 (x := 1000000) dX3_joined_215 kRX3_98 (q := 218) rfl ?_
  refine J_lcmp dX3_joined_218  (q := 219) rfl ?_
  refine J_if_le (tgt := 227) dX3_joined_219 (by decide) (q := 222) rfl (fun c0 => ?_) (fun c0 => ?_)
  · rw [if_pos c0] at h
    refine J_lload_n (z := 0) dX3_joined_227 rfl rfl (q := 228) rfl ?_
    refine J_ldc2 (x := (-1000000)) dX3_joined_228 kRX3_101 (q := 231) rfl ?_
    refine J_lcmp dX3_joined_231  (q := 232) rfl ?_
    refine J_if_ge (tgt := 240) dX3_joined_232 (by decide) (q := 235) rfl (fun c1 => ?_) (fun c1 => ?_)
    · rw [if_pos c1] at h
      refine J_lload_n (z := 0) dX3_joined_240 rfl rfl (q := 241) rfl ?_
      refine J_l2i dX3_joined_241  (q := 242) rfl ?_
      have h := Option.some.inj h
      subst h
      exact J_ireturn dX3_joined_242 rfl rfl rfl
    · rw [if_neg c1] at h
      refine J_ldc (x := (-1000000)) dX3_joined_235 kRX3_103 (q := 237) rfl ?_
      refine J_goto (tgt := 242) dX3_joined_237 (by decide) ?_
      have h := Option.some.inj h
      subst h
      exact J_ireturn dX3_joined_242 rfl rfl rfl
  · rw [if_neg c0] at h
    refine J_ldc (x := 1000000) dX3_joined_222 kRX3_100 (q := 224) rfl ?_
    refine J_goto (tgt := 242) dX3_joined_224 (by decide) ?_
    have h := Option.some.inj h
    subst h
    exact J_ireturn dX3_joined_242 rfl rfl rfl

def fX3_joined_b155 (z0 : Int64) (σ : Mm) : Option (Int32) :=
  fX3_joined_b214 z0 σ
set_option maxRecDepth 20000 in
set_option maxHeartbeats 2000000 in
theorem tX3_joined_b155 {X : XS} {n : Nat} {σ : Mm} {z0 : Int64} {res : Int32} (h : fX3_joined_b155 z0 σ = some res) : J X mX3_joined 1 0 0 (n, some (.int res), σ) 155 [] [.long z0] n σ := by
  unfold fX3_joined_b155 at h
  refine J_lstore_n (lv' := [(3, .long z0)]) dX3_joined_155 rfl (by decide) rfl (q := 156) rfl ?_
  refine J_goto (tgt := 214) dX3_joined_156 (by decide) ?_
  refine J_pick [0] rfl ?_
  exact tX3_joined_b214  h

def fX3_joined_b183 (z0 : Int64) (σ : Mm) : Option (Int32) :=
  fX3_joined_b214 z0 σ
set_option maxRecDepth 20000 in
set_option maxHeartbeats 2000000 in
theorem tX3_joined_b183 {X : XS} {n : Nat} {σ : Mm} {z0 : Int64} {res : Int32} (h : fX3_joined_b183 z0 σ = some res) : J X mX3_joined 1 0 0 (n, some (.int res), σ) 183 [] [.long z0] n σ := by
  unfold fX3_joined_b183 at h
  refine J_lstore_n (lv' := [(3, .long z0)]) dX3_joined_183 rfl (by decide) rfl (q := 184) rfl ?_
  refine J_goto (tgt := 214) dX3_joined_184 (by decide) ?_
  refine J_pick [0] rfl ?_
  exact tX3_joined_b214  h

def fX3_joined_b169 (z0 : Int64) (σ : Mm) : Option (Int32) :=
  fX3_joined_b214 z0 σ
set_option maxRecDepth 20000 in
set_option maxHeartbeats 2000000 in
theorem tX3_joined_b169 {X : XS} {n : Nat} {σ : Mm} {z0 : Int64} {res : Int32} (h : fX3_joined_b169 z0 σ = some res) : J X mX3_joined 1 0 0 (n, some (.int res), σ) 169 [] [.long z0] n σ := by
  unfold fX3_joined_b169 at h
  refine J_lstore_n (lv' := [(3, .long z0)]) dX3_joined_169 rfl (by decide) rfl (q := 170) rfl ?_
  refine J_goto (tgt := 214) dX3_joined_170 (by decide) ?_
  refine J_pick [0] rfl ?_
  exact tX3_joined_b214  h

def fX3_joined_b197 (z0 : Int64) (σ : Mm) : Option (Int32) :=
  fX3_joined_b214 z0 σ
set_option maxRecDepth 20000 in
set_option maxHeartbeats 2000000 in
theorem tX3_joined_b197 {X : XS} {n : Nat} {σ : Mm} {z0 : Int64} {res : Int32} (h : fX3_joined_b197 z0 σ = some res) : J X mX3_joined 1 0 0 (n, some (.int res), σ) 197 [] [.long z0] n σ := by
  unfold fX3_joined_b197 at h
  refine J_lstore_n (lv' := [(3, .long z0)]) dX3_joined_197 rfl (by decide) rfl (q := 198) rfl ?_
  refine J_goto (tgt := 214) dX3_joined_198 (by decide) ?_
  refine J_pick [0] rfl ?_
  exact tX3_joined_b214  h

def fX3_joined (a0 : Int32) (a1 : Int32) (a2 : Int32) (σ : Mm) : Option (Int32) :=
  if a0 = 38 then fX3_joined_b214 (Int32.toInt64 (a1 &&& a2)) σ else if a0 = 39 then fX3_joined_b214 (Int32.toInt64 (a1 ||| a2)) σ else if a0 = 40 then fX3_joined_b214 (Int32.toInt64 (a1 ||| a2)) σ else if a0 = 41 then fX3_joined_b214 (Int32.toInt64 (a1 ||| a2)) σ else if a0 = 42 then fX3_joined_b214 ((Int32.toInt64 a1) * (Int32.toInt64 a2)) σ else if a0 = 43 then fX3_joined_b214 ((Int32.toInt64 a1) + (Int32.toInt64 a2)) σ else if a0 = 44 then fX3_joined_b214 (Int32.toInt64 (a1 ||| a2)) σ else if a0 = 45 then fX3_joined_b214 ((Int32.toInt64 a1) - (Int32.toInt64 a2)) σ else if a0 = 46 then fX3_joined_b214 (Int32.toInt64 (a1 ||| a2)) σ else if a0 = 47 then if a2 = 0 then fX3_joined_b155 0 σ else if a2 = 0 then none else fX3_joined_b155 (Int32.toInt64 (a1 / a2)) σ else if a0 = 48 then fX3_joined_b214 (Int32.toInt64 (a1 ||| a2)) σ else if a0 = 49 then fX3_joined_b214 (Int32.toInt64 (a1 ||| a2)) σ else if a0 = 50 then fX3_joined_b214 (Int32.toInt64 (a1 ||| a2)) σ else if a0 = 51 then fX3_joined_b214 (Int32.toInt64 (a1 ||| a2)) σ else if a0 = 52 then fX3_joined_b214 (Int32.toInt64 (a1 ||| a2)) σ else if a0 = 53 then fX3_joined_b214 (Int32.toInt64 (a1 ||| a2)) σ else if a0 = 54 then fX3_joined_b214 (Int32.toInt64 (a1 ||| a2)) σ else if a0 = 55 then fX3_joined_b214 (Int32.toInt64 (a1 ||| a2)) σ else if a0 = 56 then fX3_joined_b214 (Int32.toInt64 (a1 ||| a2)) σ else if a0 = 57 then fX3_joined_b214 (Int32.toInt64 (a1 ||| a2)) σ else if a0 = 58 then fX3_joined_b214 (Int32.toInt64 (a1 ||| a2)) σ else if a0 = 59 then fX3_joined_b214 (Int32.toInt64 (a1 ||| a2)) σ else if a0 = 60 then if a2 ≤ a1 then fX3_joined_b183 0 σ else fX3_joined_b183 1 σ else if a0 = 61 then if a1 = a2 then fX3_joined_b169 1 σ else fX3_joined_b169 0 σ else if a0 = 62 then if a1 ≤ a2 then fX3_joined_b197 0 σ else fX3_joined_b197 1 σ else fX3_joined_b214 (Int32.toInt64 (a1 ||| a2)) σ
set_option maxRecDepth 20000 in
set_option maxHeartbeats 2000000 in
theorem tX3_joined {X : XS} {n : Nat} {σ : Mm} {a0 : Int32} {a1 : Int32} {a2 : Int32} {res : Int32} (h : fX3_joined a0 a1 a2 σ = some res) : MT X yX3_joined mX3_joined 1 0 0 [.int a0, .int a1, .int a2] n σ (n, some (.int res), σ) := by
  unfold fX3_joined at h
  refine MT_of (by decide +kernel) rfl (fun h => by cases h) (Nat.le_of_ble_eq_true rfl) ?_
  show J X mX3_joined 1 0 0 (n, some (.int res), σ) 0 [(0, .int a0), (1, .int a1), (2, .int a2)] [] n σ
  refine J_lconst (x := 0) dX3_joined_0 (by decide) (q := 1) rfl ?_
  refine J_lstore_n (lv' := [(3, .long 0), (0, .int a0), (1, .int a1), (2, .int a2)]) dX3_joined_1 rfl (by decide) rfl (q := 2) rfl ?_
  refine J_iload_n (z := 1) dX3_joined_2 rfl rfl (q := 3) rfl ?_
  refine J_table dX3_joined_3 [(38, 201), (39, 209), (40, 209), (41, 209), (42, 134), (43, 116), (44, 209), (45, 125), (46, 209), (47, 143), (48, 209), (49, 209), (50, 209), (51, 209), (52, 209), (53, 209), (54, 209), (55, 209), (56, 209), (57, 209), (58, 209), (59, 209), (60, 173), (61, 159), (62, 187)] 209 (by decide) (by decide) (by decide) ?_ ?_
  · refine List.forall_mem_cons.mpr ⟨fun hx => ?_, List.forall_mem_cons.mpr ⟨fun hx => ?_, List.forall_mem_cons.mpr ⟨fun hx => ?_, List.forall_mem_cons.mpr ⟨fun hx => ?_, List.forall_mem_cons.mpr ⟨fun hx => ?_, List.forall_mem_cons.mpr ⟨fun hx => ?_, List.forall_mem_cons.mpr ⟨fun hx => ?_, List.forall_mem_cons.mpr ⟨fun hx => ?_, List.forall_mem_cons.mpr ⟨fun hx => ?_, List.forall_mem_cons.mpr ⟨fun hx => ?_, List.forall_mem_cons.mpr ⟨fun hx => ?_, List.forall_mem_cons.mpr ⟨fun hx => ?_, List.forall_mem_cons.mpr ⟨fun hx => ?_, List.forall_mem_cons.mpr ⟨fun hx => ?_, List.forall_mem_cons.mpr ⟨fun hx => ?_, List.forall_mem_cons.mpr ⟨fun hx => ?_, List.forall_mem_cons.mpr ⟨fun hx => ?_, List.forall_mem_cons.mpr ⟨fun hx => ?_, List.forall_mem_cons.mpr ⟨fun hx => ?_, List.forall_mem_cons.mpr ⟨fun hx => ?_, List.forall_mem_cons.mpr ⟨fun hx => ?_, List.forall_mem_cons.mpr ⟨fun hx => ?_, List.forall_mem_cons.mpr ⟨fun hx => ?_, List.forall_mem_cons.mpr ⟨fun hx => ?_, List.forall_mem_cons.mpr ⟨fun hx => ?_, fun _ hh => absurd hh List.not_mem_nil⟩⟩⟩⟩⟩⟩⟩⟩⟩⟩⟩⟩⟩⟩⟩⟩⟩⟩⟩⟩⟩⟩⟩⟩⟩
    · replace hx : a0 = 38 := hx
      rw [if_pos hx] at h
      refine J_iload_n (z := 2) dX3_joined_201 rfl rfl (q := 202) rfl ?_
      refine J_iload_n (z := 3) dX3_joined_202 rfl rfl (q := 203) rfl ?_
      refine J_iand dX3_joined_203  (q := 204) rfl ?_
      refine J_i2l dX3_joined_204  (q := 205) rfl ?_
      refine J_lstore_n (lv' := [(3, .long (Int32.toInt64 (a1 &&& a2))), (0, .int a0), (1, .int a1), (2, .int a2)]) dX3_joined_205 rfl (by decide) rfl (q := 206) rfl ?_
      refine J_goto (tgt := 214) dX3_joined_206 (by decide) ?_
      refine J_pick [0] rfl ?_
      exact tX3_joined_b214  h
    · replace hx : a0 = 39 := hx
      rw [if_neg (by rw [hx]; decide), if_pos hx] at h
      refine J_iload_n (z := 2) dX3_joined_209 rfl rfl (q := 210) rfl ?_
      refine J_iload_n (z := 3) dX3_joined_210 rfl rfl (q := 211) rfl ?_
      refine J_ior dX3_joined_211  (q := 212) rfl ?_
      refine J_i2l dX3_joined_212  (q := 213) rfl ?_
      refine J_lstore_n (lv' := [(3, .long (Int32.toInt64 (a1 ||| a2))), (0, .int a0), (1, .int a1), (2, .int a2)]) dX3_joined_213 rfl (by decide) rfl (q := 214) rfl ?_
      refine J_pick [0] rfl ?_
      exact tX3_joined_b214  h
    · replace hx : a0 = 40 := hx
      rw [if_neg (by rw [hx]; decide), if_neg (by rw [hx]; decide), if_pos hx] at h
      refine J_iload_n (z := 2) dX3_joined_209 rfl rfl (q := 210) rfl ?_
      refine J_iload_n (z := 3) dX3_joined_210 rfl rfl (q := 211) rfl ?_
      refine J_ior dX3_joined_211  (q := 212) rfl ?_
      refine J_i2l dX3_joined_212  (q := 213) rfl ?_
      refine J_lstore_n (lv' := [(3, .long (Int32.toInt64 (a1 ||| a2))), (0, .int a0), (1, .int a1), (2, .int a2)]) dX3_joined_213 rfl (by decide) rfl (q := 214) rfl ?_
      refine J_pick [0] rfl ?_
      exact tX3_joined_b214  h
    · replace hx : a0 = 41 := hx
      rw [if_neg (by rw [hx]; decide), if_neg (by rw [hx]; decide), if_neg (by rw [hx]; decide), if_pos hx] at h
      refine J_iload_n (z := 2) dX3_joined_209 rfl rfl (q := 210) rfl ?_
      refine J_iload_n (z := 3) dX3_joined_210 rfl rfl (q := 211) rfl ?_
      refine J_ior dX3_joined_211  (q := 212) rfl ?_
      refine J_i2l dX3_joined_212  (q := 213) rfl ?_
      refine J_lstore_n (lv' := [(3, .long (Int32.toInt64 (a1 ||| a2))), (0, .int a0), (1, .int a1), (2, .int a2)]) dX3_joined_213 rfl (by decide) rfl (q := 214) rfl ?_
      refine J_pick [0] rfl ?_
      exact tX3_joined_b214  h
    · replace hx : a0 = 42 := hx
      rw [if_neg (by rw [hx]; decide), if_neg (by rw [hx]; decide), if_neg (by rw [hx]; decide), if_neg (by rw [hx]; decide), if_pos hx] at h
      refine J_iload_n (z := 2) dX3_joined_134 rfl rfl (q := 135) rfl ?_
      refine J_i2l dX3_joined_135  (q := 136) rfl ?_
      refine J_iload_n (z := 3) dX3_joined_136 rfl rfl (q := 137) rfl ?_
      refine J_i2l dX3_joined_137  (q := 138) rfl ?_
      refine J_lmul dX3_joined_138  (q := 139) rfl ?_
      refine J_lstore_n (lv' := [(3, .long ((Int32.toInt64 a1) * (Int32.toInt64 a2))), (0, .int a0), (1, .int a1), (2, .int a2)]) dX3_joined_139 rfl (by decide) rfl (q := 140) rfl ?_
      refine J_goto (tgt := 214) dX3_joined_140 (by decide) ?_
      refine J_pick [0] rfl ?_
      exact tX3_joined_b214  h
    · replace hx : a0 = 43 := hx
      rw [if_neg (by rw [hx]; decide), if_neg (by rw [hx]; decide), if_neg (by rw [hx]; decide), if_neg (by rw [hx]; decide), if_neg (by rw [hx]; decide), if_pos hx] at h
      refine J_iload_n (z := 2) dX3_joined_116 rfl rfl (q := 117) rfl ?_
      refine J_i2l dX3_joined_117  (q := 118) rfl ?_
      refine J_iload_n (z := 3) dX3_joined_118 rfl rfl (q := 119) rfl ?_
      refine J_i2l dX3_joined_119  (q := 120) rfl ?_
      refine J_ladd dX3_joined_120  (q := 121) rfl ?_
      refine J_lstore_n (lv' := [(3, .long ((Int32.toInt64 a1) + (Int32.toInt64 a2))), (0, .int a0), (1, .int a1), (2, .int a2)]) dX3_joined_121 rfl (by decide) rfl (q := 122) rfl ?_
      refine J_goto (tgt := 214) dX3_joined_122 (by decide) ?_
      refine J_pick [0] rfl ?_
      exact tX3_joined_b214  h
    · replace hx : a0 = 44 := hx
      rw [if_neg (by rw [hx]; decide), if_neg (by rw [hx]; decide), if_neg (by rw [hx]; decide), if_neg (by rw [hx]; decide), if_neg (by rw [hx]; decide), if_neg (by rw [hx]; decide), if_pos hx] at h
      refine J_iload_n (z := 2) dX3_joined_209 rfl rfl (q := 210) rfl ?_
      refine J_iload_n (z := 3) dX3_joined_210 rfl rfl (q := 211) rfl ?_
      refine J_ior dX3_joined_211  (q := 212) rfl ?_
      refine J_i2l dX3_joined_212  (q := 213) rfl ?_
      refine J_lstore_n (lv' := [(3, .long (Int32.toInt64 (a1 ||| a2))), (0, .int a0), (1, .int a1), (2, .int a2)]) dX3_joined_213 rfl (by decide) rfl (q := 214) rfl ?_
      refine J_pick [0] rfl ?_
      exact tX3_joined_b214  h
    · replace hx : a0 = 45 := hx
      rw [if_neg (by rw [hx]; decide), if_neg (by rw [hx]; decide), if_neg (by rw [hx]; decide), if_neg (by rw [hx]; decide), if_neg (by rw [hx]; decide), if_neg (by rw [hx]; decide), if_neg (by rw [hx]; decide), if_pos hx] at h
      refine J_iload_n (z := 2) dX3_joined_125 rfl rfl (q := 126) rfl ?_
      refine J_i2l dX3_joined_126  (q := 127) rfl ?_
      refine J_iload_n (z := 3) dX3_joined_127 rfl rfl (q := 128) rfl ?_
      refine J_i2l dX3_joined_128  (q := 129) rfl ?_
      refine J_lsub dX3_joined_129  (q := 130) rfl ?_
      refine J_lstore_n (lv' := [(3, .long ((Int32.toInt64 a1) - (Int32.toInt64 a2))), (0, .int a0), (1, .int a1), (2, .int a2)]) dX3_joined_130 rfl (by decide) rfl (q := 131) rfl ?_
      refine J_goto (tgt := 214) dX3_joined_131 (by decide) ?_
      refine J_pick [0] rfl ?_
      exact tX3_joined_b214  h
    · replace hx : a0 = 46 := hx
      rw [if_neg (by rw [hx]; decide), if_neg (by rw [hx]; decide), if_neg (by rw [hx]; decide), if_neg (by rw [hx]; decide), if_neg (by rw [hx]; decide), if_neg (by rw [hx]; decide), if_neg (by rw [hx]; decide), if_neg (by rw [hx]; decide), if_pos hx] at h
      refine J_iload_n (z := 2) dX3_joined_209 rfl rfl (q := 210) rfl ?_
      refine J_iload_n (z := 3) dX3_joined_210 rfl rfl (q := 211) rfl ?_
      refine J_ior dX3_joined_211  (q := 212) rfl ?_
      refine J_i2l dX3_joined_212  (q := 213) rfl ?_
      refine J_lstore_n (lv' := [(3, .long (Int32.toInt64 (a1 ||| a2))), (0, .int a0), (1, .int a1), (2, .int a2)]) dX3_joined_213 rfl (by decide) rfl (q := 214) rfl ?_
      refine J_pick [0] rfl ?_
      exact tX3_joined_b214  h
    · replace hx : a0 = 47 := hx
      rw [if_neg (by rw [hx]; decide), if_neg (by rw [hx]; decide), if_neg (by rw [hx]; decide), if_neg (by rw [hx]; decide), if_neg (by rw [hx]; decide), if_neg (by rw [hx]; decide), if_neg (by rw [hx]; decide), if_neg (by rw [hx]; decide), if_neg (by rw [hx]; decide), if_pos hx] at h
      refine J_iload_n (z := 3) dX3_joined_143 rfl rfl (q := 144) rfl ?_
      refine J_if_ne (tgt := 151) dX3_joined_144 (by decide) (q := 147) rfl (fun c2 => ?_) (fun c2 => ?_)
      · rw [if_neg c2] at h
        refine J_iload_n (z := 2) dX3_joined_151 rfl rfl (q := 152) rfl ?_
        refine J_iload_n (z := 3) dX3_joined_152 rfl rfl (q := 153) rfl ?_
        obtain ⟨g4, h⟩ := iteN h
        refine J_idiv dX3_joined_153 g4 (q := 154) rfl ?_
        refine J_i2l dX3_joined_154  (q := 155) rfl ?_
        refine J_pick [] rfl ?_
        exact tX3_joined_b155  h
      · rw [if_pos c2] at h
        refine J_lconst (x := 0) dX3_joined_147 (by decide) (q := 148) rfl ?_
        refine J_goto (tgt := 155) dX3_joined_148 (by decide) ?_
        refine J_pick [] rfl ?_
        exact tX3_joined_b155  h
    · replace hx : a0 = 48 := hx
      rw [if_neg (by rw [hx]; decide), if_neg (by rw [hx]; decide), if_neg (by rw [hx]; decide), if_neg (by rw [hx]; decide), if_neg (by rw [hx]; decide), if_neg (by rw [hx]; decide), if_neg (by rw [hx]; decide), if_neg (by rw [hx]; decide), if_neg (by rw [hx]; decide), if_neg (by rw [hx]; decide), if_pos hx] at h
      refine J_iload_n (z := 2) dX3_joined_209 rfl rfl (q := 210) rfl ?_
      refine J_iload_n (z := 3) dX3_joined_210 rfl rfl (q := 211) rfl ?_
      refine J_ior dX3_joined_211  (q := 212) rfl ?_
      refine J_i2l dX3_joined_212  (q := 213) rfl ?_
      refine J_lstore_n (lv' := [(3, .long (Int32.toInt64 (a1 ||| a2))), (0, .int a0), (1, .int a1), (2, .int a2)]) dX3_joined_213 rfl (by decide) rfl (q := 214) rfl ?_
      refine J_pick [0] rfl ?_
      exact tX3_joined_b214  h
    · replace hx : a0 = 49 := hx
      rw [if_neg (by rw [hx]; decide), if_neg (by rw [hx]; decide), if_neg (by rw [hx]; decide), if_neg (by rw [hx]; decide), if_neg (by rw [hx]; decide), if_neg (by rw [hx]; decide), if_neg (by rw [hx]; decide), if_neg (by rw [hx]; decide), if_neg (by rw [hx]; decide), if_neg (by rw [hx]; decide), if_neg (by rw [hx]; decide), if_pos hx] at h
      refine J_iload_n (z := 2) dX3_joined_209 rfl rfl (q := 210) rfl ?_
      refine J_iload_n (z := 3) dX3_joined_210 rfl rfl (q := 211) rfl ?_
      refine J_ior dX3_joined_211  (q := 212) rfl ?_
      refine J_i2l dX3_joined_212  (q := 213) rfl ?_
      refine J_lstore_n (lv' := [(3, .long (Int32.toInt64 (a1 ||| a2))), (0, .int a0), (1, .int a1), (2, .int a2)]) dX3_joined_213 rfl (by decide) rfl (q := 214) rfl ?_
      refine J_pick [0] rfl ?_
      exact tX3_joined_b214  h
    · replace hx : a0 = 50 := hx
      rw [if_neg (by rw [hx]; decide), if_neg (by rw [hx]; decide), if_neg (by rw [hx]; decide), if_neg (by rw [hx]; decide), if_neg (by rw [hx]; decide), if_neg (by rw [hx]; decide), if_neg (by rw [hx]; decide), if_neg (by rw [hx]; decide), if_neg (by rw [hx]; decide), if_neg (by rw [hx]; decide), if_neg (by rw [hx]; decide), if_neg (by rw [hx]; decide), if_pos hx] at h
      refine J_iload_n (z := 2) dX3_joined_209 rfl rfl (q := 210) rfl ?_
      refine J_iload_n (z := 3) dX3_joined_210 rfl rfl (q := 211) rfl ?_
      refine J_ior dX3_joined_211  (q := 212) rfl ?_
      refine J_i2l dX3_joined_212  (q := 213) rfl ?_
      refine J_lstore_n (lv' := [(3, .long (Int32.toInt64 (a1 ||| a2))), (0, .int a0), (1, .int a1), (2, .int a2)]) dX3_joined_213 rfl (by decide) rfl (q := 214) rfl ?_
      refine J_pick [0] rfl ?_
      exact tX3_joined_b214  h
    · replace hx : a0 = 51 := hx
      rw [if_neg (by rw [hx]; decide), if_neg (by rw [hx]; decide), if_neg (by rw [hx]; decide), if_neg (by rw [hx]; decide), if_neg (by rw [hx]; decide), if_neg (by rw [hx]; decide), if_neg (by rw [hx]; decide), if_neg (by rw [hx]; decide), if_neg (by rw [hx]; decide), if_neg (by rw [hx]; decide), if_neg (by rw [hx]; decide), if_neg (by rw [hx]; decide), if_neg (by rw [hx]; decide), if_pos hx] at h
      refine J_iload_n (z := 2) dX3_joined_209 rfl rfl (q := 210) rfl ?_
      refine J_iload_n (z := 3) dX3_joined_210 rfl rfl (q := 211) rfl ?_
      refine J_ior dX3_joined_211  (q := 212) rfl ?_
      refine J_i2l dX3_joined_212  (q := 213) rfl ?_
      refine J_lstore_n (lv' := [(3, .long (Int32.toInt64 (a1 ||| a2))), (0, .int a0), (1, .int a1), (2, .int a2)]) dX3_joined_213 rfl (by decide) rfl (q := 214) rfl ?_
      refine J_pick [0] rfl ?_
      exact tX3_joined_b214  h
    · replace hx : a0 = 52 := hx
      rw [if_neg (by rw [hx]; decide), if_neg (by rw [hx]; decide), if_neg (by rw [hx]; decide), if_neg (by rw [hx]; decide), if_neg (by rw [hx]; decide), if_neg (by rw [hx]; decide), if_neg (by rw [hx]; decide), if_neg (by rw [hx]; decide), if_neg (by rw [hx]; decide), if_neg (by rw [hx]; decide), if_neg (by rw [hx]; decide), if_neg (by rw [hx]; decide), if_neg (by rw [hx]; decide), if_neg (by rw [hx]; decide), if_pos hx] at h
      refine J_iload_n (z := 2) dX3_joined_209 rfl rfl (q := 210) rfl ?_
      refine J_iload_n (z := 3) dX3_joined_210 rfl rfl (q := 211) rfl ?_
      refine J_ior dX3_joined_211  (q := 212) rfl ?_
      refine J_i2l dX3_joined_212  (q := 213) rfl ?_
      refine J_lstore_n (lv' := [(3, .long (Int32.toInt64 (a1 ||| a2))), (0, .int a0), (1, .int a1), (2, .int a2)]) dX3_joined_213 rfl (by decide) rfl (q := 214) rfl ?_
      refine J_pick [0] rfl ?_
      exact tX3_joined_b214  h
    · replace hx : a0 = 53 := hx
      rw [if_neg (by rw [hx]; decide), if_neg (by rw [hx]; decide), if_neg (by rw [hx]; decide), if_neg (by rw [hx]; decide), if_neg (by rw [hx]; decide), if_neg (by rw [hx]; decide), if_neg (by rw [hx]; decide), if_neg (by rw [hx]; decide), if_neg (by rw [hx]; decide), if_neg (by rw [hx]; decide), if_neg (by rw [hx]; decide), if_neg (by rw [hx]; decide), if_neg (by rw [hx]; decide), if_neg (by rw [hx]; decide), if_neg (by rw [hx]; decide), if_pos hx] at h
      refine J_iload_n (z := 2) dX3_joined_209 rfl rfl (q := 210) rfl ?_
      refine J_iload_n (z := 3) dX3_joined_210 rfl rfl (q := 211) rfl ?_
      refine J_ior dX3_joined_211  (q := 212) rfl ?_
      refine J_i2l dX3_joined_212  (q := 213) rfl ?_
      refine J_lstore_n (lv' := [(3, .long (Int32.toInt64 (a1 ||| a2))), (0, .int a0), (1, .int a1), (2, .int a2)]) dX3_joined_213 rfl (by decide) rfl (q := 214) rfl ?_
      refine J_pick [0] rfl ?_
      exact tX3_joined_b214  h
    · replace hx : a0 = 54 := hx
      rw [if_neg (by rw [hx]; decide), if_neg (by rw [hx]; decide), if_neg (by rw [hx]; decide), if_neg (by rw [hx]; decide), if_neg (by rw [hx]; decide), if_neg (by rw [hx]; decide), if_neg (by rw [hx]; decide), if_neg (by rw [hx]; decide), if_neg (by rw [hx]; decide), if_neg (by rw [hx]; decide), if_neg (by rw [hx]; decide), if_neg (by rw [hx]; decide), if_neg (by rw [hx]; decide), if_neg (by rw [hx]; decide), if_neg (by rw [hx]; decide), if_neg (by rw [hx]; decide), if_pos hx] at h
      refine J_iload_n (z := 2) dX3_joined_209 rfl rfl (q := 210) rfl ?_
      refine J_iload_n (z := 3) dX3_joined_210 rfl rfl (q := 211) rfl ?_
      refine J_ior dX3_joined_211  (q := 212) rfl ?_
      refine J_i2l dX3_joined_212  (q := 213) rfl ?_
      refine J_lstore_n (lv' := [(3, .long (Int32.toInt64 (a1 ||| a2))), (0, .int a0), (1, .int a1), (2, .int a2)]) dX3_joined_213 rfl (by decide) rfl (q := 214) rfl ?_
      refine J_pick [0] rfl ?_
      exact tX3_joined_b214  h
    · replace hx : a0 = 55 := hx
      rw [if_neg (by rw [hx]; decide), if_neg (by rw [hx]; decide), if_neg (by rw [hx]; decide), if_neg (by rw [hx]; decide), if_neg (by rw [hx]; decide), if_neg (by rw [hx]; decide), if_neg (by rw [hx]; decide), if_neg (by rw [hx]; decide), if_neg (by rw [hx]; decide), if_neg (by rw [hx]; decide), if_neg (by rw [hx]; decide), if_neg (by rw [hx]; decide), if_neg (by rw [hx]; decide), if_neg (by rw [hx]; decide), if_neg (by rw [hx]; decide), if_neg (by rw [hx]; decide), if_neg (by rw [hx]; decide), if_pos hx] at h
      refine J_iload_n (z := 2) dX3_joined_209 rfl rfl (q := 210) rfl ?_
      refine J_iload_n (z := 3) dX3_joined_210 rfl rfl (q := 211) rfl ?_
      refine J_ior dX3_joined_211  (q := 212) rfl ?_
      refine J_i2l dX3_joined_212  (q := 213) rfl ?_
      refine J_lstore_n (lv' := [(3, .long (Int32.toInt64 (a1 ||| a2))), (0, .int a0), (1, .int a1), (2, .int a2)]) dX3_joined_213 rfl (by decide) rfl (q := 214) rfl ?_
      refine J_pick [0] rfl ?_
      exact tX3_joined_b214  h
    · replace hx : a0 = 56 := hx
      rw [if_neg (by rw [hx]; decide), if_neg (by rw [hx]; decide), if_neg (by rw [hx]; decide), if_neg (by rw [hx]; decide), if_neg (by rw [hx]; decide), if_neg (by rw [hx]; decide), if_neg (by rw [hx]; decide), if_neg (by rw [hx]; decide), if_neg (by rw [hx]; decide), if_neg (by rw [hx]; decide), if_neg (by rw [hx]; decide), if_neg (by rw [hx]; decide), if_neg (by rw [hx]; decide), if_neg (by rw [hx]; decide), if_neg (by rw [hx]; decide), if_neg (by rw [hx]; decide), if_neg (by rw [hx]; decide), if_neg (by rw [hx]; decide), if_pos hx] at h
      refine J_iload_n (z := 2) dX3_joined_209 rfl rfl (q := 210) rfl ?_
      refine J_iload_n (z := 3) dX3_joined_210 rfl rfl (q := 211) rfl ?_
      refine J_ior dX3_joined_211  (q := 212) rfl ?_
      refine J_i2l dX3_joined_212  (q := 213) rfl ?_
      refine J_lstore_n (lv' := [(3, .long (Int32.toInt64 (a1 ||| a2))), (0, .int a0), (1, .int a1), (2, .int a2)]) dX3_joined_213 rfl (by decide) rfl (q := 214) rfl ?_
      refine J_pick [0] rfl ?_
      exact tX3_joined_b214  h
    · replace hx : a0 = 57 := hx
      rw [if_neg (by rw [hx]; decide), if_neg (by rw [hx]; decide), if_neg (by rw [hx]; decide), if_neg (by rw [hx]; decide), if_neg (by rw [hx]; decide), if_neg (by rw [hx]; decide), if_neg (by rw [hx]; decide), if_neg (by rw [hx]; decide), if_neg (by rw [hx]; decide), if_neg (by rw [hx]; decide), if_neg (by rw [hx]; decide), if_neg (by rw [hx]; decide), if_neg (by rw [hx]; decide), if_neg (by rw [hx]; decide), if_neg (by rw [hx]; decide), if_neg (by rw [hx]; decide), if_neg (by rw [hx]; decide), if_neg (by rw [hx]; decide), if_neg (by rw [hx]; decide), if_pos hx] at h
      refine J_iload_n (z := 2) dX3_joined_209 rfl rfl (q := 210) rfl ?_
      refine J_iload_n (z := 3) dX3_joined_210 rfl rfl (q := 211) rfl ?_
      refine J_ior dX3_joined_211  (q := 212) rfl ?_
      refine J_i2l dX3_joined_212  (q := 213) rfl ?_
      refine J_lstore_n (lv' := [(3, .long (Int32.toInt64 (a1 ||| a2))), (0, .int a0), (1, .int a1), (2, .int a2)]) dX3_joined_213 rfl (by decide) rfl (q := 214) rfl ?_
      refine J_pick [0] rfl ?_
      exact tX3_joined_b214  h
    · replace hx : a0 = 58 := hx
      rw [if_neg (by rw [hx]; decide), if_neg (by rw [hx]; decide), if_neg (by rw [hx]; decide), if_neg (by rw [hx]; decide), if_neg (by rw [hx]; decide), if_neg (by rw [hx]; decide), if_neg (by rw [hx]; decide), if_neg (by rw [hx]; decide), if_neg (by rw [hx]; decide), if_neg (by rw [hx]; decide), if_neg (by rw [hx]; decide), if_neg (by rw [hx]; decide), if_neg (by rw [hx]; decide), if_neg (by rw [hx]; decide), if_neg (by rw [hx]; decide), if_neg (by rw [hx]; decide), if_neg (by rw [hx]; decide), if_neg (by rw [hx]; decide), if_neg (by rw [hx]; decide), if_neg (by rw [hx]; decide), if_pos hx] at h
      refine J_iload_n (z := 2) dX3_joined_209 rfl rfl (q := 210) rfl ?_
      refine J_iload_n (z := 3) dX3_joined_210 rfl rfl (q := 211) rfl ?_
      refine J_ior dX3_joined_211  (q := 212) rfl ?_
      refine J_i2l dX3_joined_212  (q := 213) rfl ?_
      refine J_lstore_n (lv' := [(3, .long (Int32.toInt64 (a1 ||| a2))), (0, .int a0), (1, .int a1), (2, .int a2)]) dX3_joined_213 rfl (by decide) rfl (q := 214) rfl ?_
      refine J_pick [0] rfl ?_
      exact tX3_joined_b214  h
    · replace hx : a0 = 59 := hx
      rw [if_neg (by rw [hx]; decide), if_neg (by rw [hx]; decide), if_neg (by rw [hx]; decide), if_neg (by rw [hx]; decide), if_neg (by rw [hx]; decide), if_neg (by rw [hx]; decide), if_neg (by rw [hx]; decide), if_neg (by rw [hx]; decide), if_neg (by rw [hx]; decide), if_neg (by rw [hx]; decide), if_neg (by rw [hx]; decide), if_neg (by rw [hx]; decide), if_neg (by rw [hx]; decide), if_neg (by rw [hx]; decide), if_neg (by rw [hx]; decide), if_neg (by rw [hx]; decide), if_neg (by rw [hx]; decide), if_neg (by rw [hx]; decide), if_neg (by rw [hx]; decide), if_neg (by rw [hx]; decide), if_neg (by rw [hx]; decide), if_pos hx] at h
      refine J_iload_n (z := 2) dX3_joined_209 rfl rfl (q := 210) rfl ?_
      refine J_iload_n (z := 3) dX3_joined_210 rfl rfl (q := 211) rfl ?_
      refine J_ior dX3_joined_211  (q := 212) rfl ?_
      refine J_i2l dX3_joined_212  (q := 213) rfl ?_
      refine J_lstore_n (lv' := [(3, .long (Int32.toInt64 (a1 ||| a2))), (0, .int a0), (1, .int a1), (2, .int a2)]) dX3_joined_213 rfl (by decide) rfl (q := 214) rfl ?_
      refine J_pick [0] rfl ?_
      exact tX3_joined_b214  h
    · replace hx : a0 = 60 := hx
      rw [if_neg (by rw [hx]; decide), if_neg (by rw [hx]; decide), if_neg (by rw [hx]; decide), if_neg (by rw [hx]; decide), if_neg (by rw [hx]; decide), if_neg (by rw [hx]; decide), if_neg (by rw [hx]; decide), if_neg (by rw [hx]; decide), if_neg (by rw [hx]; decide), if_neg (by rw [hx]; decide), if_neg (by rw [hx]; decide), if_neg (by rw [hx]; decide), if_neg (by rw [hx]; decide), if_neg (by rw [hx]; decide), if_neg (by rw [hx]; decide), if_neg (by rw [hx]; decide), if_neg (by rw [hx]; decide), if_neg (by rw [hx]; decide), if_neg (by rw [hx]; decide), if_neg (by rw [hx]; decide), if_neg (by rw [hx]; decide), if_neg (by rw [hx]; decide), if_pos hx] at h
      refine J_iload_n (z := 2) dX3_joined_173 rfl rfl (q := 174) rfl ?_
      refine J_iload_n (z := 3) dX3_joined_174 rfl rfl (q := 175) rfl ?_
      refine J_icmp_ge (tgt := 182) dX3_joined_175 (by decide) (q := 178) rfl (fun c4 => ?_) (fun c4 => ?_)
      · rw [if_pos c4] at h
        refine J_lconst (x := 0) dX3_joined_182 (by decide) (q := 183) rfl ?_
        refine J_pick [] rfl ?_
        exact tX3_joined_b183  h
      · rw [if_neg c4] at h
        refine J_lconst (x := 1) dX3_joined_178 (by decide) (q := 179) rfl ?_
        refine J_goto (tgt := 183) dX3_joined_179 (by decide) ?_
        refine J_pick [] rfl ?_
        exact tX3_joined_b183  h
    · replace hx : a0 = 61 := hx
      rw [if_neg (by rw [hx]; decide), if_neg (by rw [hx]; decide), if_neg (by rw [hx]; decide), if_neg (by rw [hx]; decide), if_neg (by rw [hx]; decide), if_neg (by rw [hx]; decide), if_neg (by rw [hx]; decide), if_neg (by rw [hx]; decide), if_neg (by rw [hx]; decide), if_neg (by rw [hx]; decide), if_neg (by rw [hx]; decide), if_neg (by rw [hx]; decide), if_neg (by rw [hx]; decide), if_neg (by rw [hx]; decide), if_neg (by rw [hx]; decide), if_neg (by rw [hx]; decide), if_neg (by rw [hx]; decide), if_neg (by rw [hx]; decide), if_neg (by rw [hx]; decide), if_neg (by rw [hx]; decide), if_neg (by rw [hx]; decide), if_neg (by rw [hx]; decide), if_neg (by rw [hx]; decide), if_pos hx] at h
      refine J_iload_n (z := 2) dX3_joined_159 rfl rfl (q := 160) rfl ?_
      refine J_iload_n (z := 3) dX3_joined_160 rfl rfl (q := 161) rfl ?_
      refine J_icmp_ne (tgt := 168) dX3_joined_161 (by decide) (q := 164) rfl (fun c5 => ?_) (fun c5 => ?_)
      · rw [if_neg c5] at h
        refine J_lconst (x := 0) dX3_joined_168 (by decide) (q := 169) rfl ?_
        refine J_pick [] rfl ?_
        exact tX3_joined_b169  h
      · rw [if_pos c5] at h
        refine J_lconst (x := 1) dX3_joined_164 (by decide) (q := 165) rfl ?_
        refine J_goto (tgt := 169) dX3_joined_165 (by decide) ?_
        refine J_pick [] rfl ?_
        exact tX3_joined_b169  h
    · replace hx : a0 = 62 := hx
      rw [if_neg (by rw [hx]; decide), if_neg (by rw [hx]; decide), if_neg (by rw [hx]; decide), if_neg (by rw [hx]; decide), if_neg (by rw [hx]; decide), if_neg (by rw [hx]; decide), if_neg (by rw [hx]; decide), if_neg (by rw [hx]; decide), if_neg (by rw [hx]; decide), if_neg (by rw [hx]; decide), if_neg (by rw [hx]; decide), if_neg (by rw [hx]; decide), if_neg (by rw [hx]; decide), if_neg (by rw [hx]; decide), if_neg (by rw [hx]; decide), if_neg (by rw [hx]; decide), if_neg (by rw [hx]; decide), if_neg (by rw [hx]; decide), if_neg (by rw [hx]; decide), if_neg (by rw [hx]; decide), if_neg (by rw [hx]; decide), if_neg (by rw [hx]; decide), if_neg (by rw [hx]; decide), if_neg (by rw [hx]; decide), if_pos hx] at h
      refine J_iload_n (z := 2) dX3_joined_187 rfl rfl (q := 188) rfl ?_
      refine J_iload_n (z := 3) dX3_joined_188 rfl rfl (q := 189) rfl ?_
      refine J_icmp_le (tgt := 196) dX3_joined_189 (by decide) (q := 192) rfl (fun c6 => ?_) (fun c6 => ?_)
      · rw [if_pos c6] at h
        refine J_lconst (x := 0) dX3_joined_196 (by decide) (q := 197) rfl ?_
        refine J_pick [] rfl ?_
        exact tX3_joined_b197  h
      · rw [if_neg c6] at h
        refine J_lconst (x := 1) dX3_joined_192 (by decide) (q := 193) rfl ?_
        refine J_goto (tgt := 197) dX3_joined_193 (by decide) ?_
        refine J_pick [] rfl ?_
        exact tX3_joined_b197  h
  · intro hx
    rw [if_neg (hx (38, 201) (by decide)), if_neg (hx (39, 209) (by decide)), if_neg (hx (40, 209) (by decide)), if_neg (hx (41, 209) (by decide)), if_neg (hx (42, 134) (by decide)), if_neg (hx (43, 116) (by decide)), if_neg (hx (44, 209) (by decide)), if_neg (hx (45, 125) (by decide)), if_neg (hx (46, 209) (by decide)), if_neg (hx (47, 143) (by decide)), if_neg (hx (48, 209) (by decide)), if_neg (hx (49, 209) (by decide)), if_neg (hx (50, 209) (by decide)), if_neg (hx (51, 209) (by decide)), if_neg (hx (52, 209) (by decide)), if_neg (hx (53, 209) (by decide)), if_neg (hx (54, 209) (by decide)), if_neg (hx (55, 209) (by decide)), if_neg (hx (56, 209) (by decide)), if_neg (hx (57, 209) (by decide)), if_neg (hx (58, 209) (by decide)), if_neg (hx (59, 209) (by decide)), if_neg (hx (60, 173) (by decide)), if_neg (hx (61, 159) (by decide)), if_neg (hx (62, 187) (by decide))] at h
    refine J_iload_n (z := 2) dX3_joined_209 rfl rfl (q := 210) rfl ?_
    refine J_iload_n (z := 3) dX3_joined_210 rfl rfl (q := 211) rfl ?_
    refine J_ior dX3_joined_211  (q := 212) rfl ?_
    refine J_i2l dX3_joined_212  (q := 213) rfl ?_
    refine J_lstore_n (lv' := [(3, .long (Int32.toInt64 (a1 ||| a2))), (0, .int a0), (1, .int a1), (2, .int a2)]) dX3_joined_213 rfl (by decide) rfl (q := 214) rfl ?_
    refine J_pick [0] rfl ?_
    exact tX3_joined_b214  h

def fX3_worth_b280 (a0 : Nat) (a1 : Nat) (a2 : Int32) (a3 : Int32) (a4 : Int32) (σ : Mm) : Option ((Int32 × Int32 × Int32 × Mm) ⊕ ((Int32 × Mm) ⊕ Int32 × Mm)) :=
  some (Sum.inl (a2, a3, (a4 + 1), σ))
set_option maxRecDepth 20000 in
set_option maxHeartbeats 2000000 in
theorem tX3_worth_b280 {X : XS} {n : Nat} {σ : Mm} {F : Nat × Option Value × Mm} {a0 : Nat} {a1 : Nat} {a2 : Int32} {a3 : Int32} {a4 : Int32} (ha0 : RT n a0 103) (ha1 : RT n a1 200) {res : (Int32 × Int32 × Int32 × Mm) ⊕ ((Int32 × Mm) ⊕ Int32 × Mm)} (h : fX3_worth_b280 a0 a1 a2 a3 a4 σ = some res) (hc : ∀ (b2 : Int32) (b3 : Int32) (b4 : Int32) (s : Mm), res = .inl (b2, b3, b4, s) → J X mX3_worth 2 0 0 F 7 [(0, .ref a0), (1, .ref a1), (2, .int b2), (3, .int b3), (4, .int b4)] [] n s) (he0 : ∀ (b2 : Int32) (s : Mm), res = .inr (Sum.inr (b2, s)) → J X mX3_worth 2 0 0 F 62 [(0, .ref a0), (2, .int b2)] [] n s) (hr : ∀ (v : Int32) (s : Mm), res = .inr (Sum.inl (v, s)) → F = (n, some (.int v), s)) : J X mX3_worth 2 0 0 F 280 [(0, .ref a0), (1, .ref a1), (2, .int a2), (3, .int a3), (4, .int a4)] [] n σ := by
  unfold fX3_worth_b280 at h
  refine J_iinc (z := 4) (y := (a4 + 1)) (lv' := [(4, .int (a4 + 1)), (0, .ref a0), (1, .ref a1), (2, .int a2), (3, .int a3)]) dX3_worth_280 rfl rfl (by decide) rfl (q := 283) rfl ?_
  refine J_goto (tgt := 7) dX3_worth_283 (by decide) ?_
  have h := Option.some.inj h
  refine J_pick [1, 2, 3, 4, 0] rfl ?_
  exact hc _ _ _ _ h.symm

def fX3_worth_b245 (a0 : Nat) (a1 : Nat) (a2 : Int32) (a3 : Int32) (a4 : Int32) (a5 : Int32) (σ : Mm) : Option ((Int32 × Int32 × Int32 × Mm) ⊕ ((Int32 × Mm) ⊕ Int32 × Mm)) :=
  if a2 ≤ 1 then fX3_worth_b280 a0 a1 a2 a3 a4 σ else (gR σ a0 3).bind fun r14 => if ixB ((a2 + (-1)) - 1) (ln r14) = true then if ixB (a2 + (-1)) (ln r14) = true then (fX3_joined a5 (gI σ r14 (Int32.toNatClampNeg ((a2 + (-1)) - 1))) (gI σ r14 (Int32.toNatClampNeg (a2 + (-1)))) σ).bind fun vk17 => if ixB ((a2 + (-1)) - 1) (ln r14) = true then fX3_worth_b280 a0 a1 (a2 + (-1)) a3 a4 (sI σ r14 (Int32.toNatClampNeg ((a2 + (-1)) - 1)) vk17) else none else none else none
set_option maxRecDepth 20000 in
set_option maxHeartbeats 2000000 in
theorem tX3_worth_b245 {X : XS} {n : Nat} {σ : Mm} {F : Nat × Option Value × Mm} {a0 : Nat} {a1 : Nat} {a2 : Int32} {a3 : Int32} {a4 : Int32} {a5 : Int32} (ha0 : RT n a0 103) (ha1 : RT n a1 200) {res : (Int32 × Int32 × Int32 × Mm) ⊕ ((Int32 × Mm) ⊕ Int32 × Mm)} (h : fX3_worth_b245 a0 a1 a2 a3 a4 a5 σ = some res) (hc : ∀ (b2 : Int32) (b3 : Int32) (b4 : Int32) (s : Mm), res = .inl (b2, b3, b4, s) → J X mX3_worth 2 0 0 F 7 [(0, .ref a0), (1, .ref a1), (2, .int b2), (3, .int b3), (4, .int b4)] [] n s) (he0 : ∀ (b2 : Int32) (s : Mm), res = .inr (Sum.inr (b2, s)) → J X mX3_worth 2 0 0 F 62 [(0, .ref a0), (2, .int b2)] [] n s) (hr : ∀ (v : Int32) (s : Mm), res = .inr (Sum.inl (v, s)) → F = (n, some (.int v), s)) : J X mX3_worth 2 0 0 F 245 [(0, .ref a0), (1, .ref a1), (2, .int a2), (3, .int a3), (4, .int a4), (5, .int a5)] [] n σ := by
  unfold fX3_worth_b245 at h
  refine J_iload_n (z := 2) dX3_worth_245 rfl rfl (q := 246) rfl ?_
  refine J_iconst (x := 1) dX3_worth_246 (by decide) (q := 247) rfl ?_
  refine J_icmp_le (tgt := 280) dX3_worth_247 (by decide) (q := 250) rfl (fun c12 => ?_) (fun c12 => ?_)
  · rw [if_pos c12] at h
    refine J_pick [0, 1, 2, 3, 4] rfl ?_
    exact tX3_worth_b280 ha0 ha1 h hc he0 hr
  · rw [if_neg c12] at h
    refine J_iinc (z := 2) (y := (a2 + (-1))) (lv' := [(2, .int (a2 + (-1))), (0, .ref a0), (1, .ref a1), (3, .int a3), (4, .int a4), (5, .int a5)]) dX3_worth_250 rfl rfl (by decide) rfl (q := 253) rfl ?_
    refine J_aload_n (z := 1) dX3_worth_253 rfl rfl (q := 254) rfl ?_
    obtain ⟨r14, er14, h⟩ := bindS h
    refine J_getR dX3_worth_254 lRX3_18 ha0 rfl (by decide) er14 (q := 257) rfl (fun fr14 => ?_)
    refine J_iload_n (z := 0) dX3_worth_257 rfl rfl (q := 258) rfl ?_
    refine J_iconst (x := 1) dX3_worth_258 (by decide) (q := 259) rfl ?_
    refine J_isub dX3_worth_259  (q := 260) rfl ?_
    refine J_iload (z := 5) dX3_worth_260 rfl (q := 262) rfl ?_
    refine J_aload_n (z := 1) dX3_worth_262 rfl rfl (q := 263) rfl ?_
    refine J_getR dX3_worth_263 lRX3_18 ha0 rfl (by decide) er14 (q := 266) rfl (fun _ => ?_)
    refine J_iload_n (z := 0) dX3_worth_266 rfl rfl (q := 267) rfl ?_
    refine J_iconst (x := 1) dX3_worth_267 (by decide) (q := 268) rfl ?_
    refine J_isub dX3_worth_268  (q := 269) rfl ?_
    obtain ⟨g15, h⟩ := iteS h
    refine J_iald dX3_worth_269 fr14 (ixB_ok g15) (q := 270) rfl ?_
    refine J_aload_n (z := 1) dX3_worth_270 rfl rfl (q := 271) rfl ?_
    refine J_getR dX3_worth_271 lRX3_18 ha0 rfl (by decide) er14 (q := 274) rfl (fun _ => ?_)
    refine J_iload_n (z := 0) dX3_worth_274 rfl rfl (q := 275) rfl ?_
    obtain ⟨g16, h⟩ := iteS h
    refine J_iald dX3_worth_275 fr14 (ixB_ok g16) (q := 276) rfl ?_
    obtain ⟨vk17, hk17, h⟩ := bindS h
    refine J_cSi (as := [.int a5, .int (gI σ r14 (Int32.toNatClampNeg ((a2 + (-1)) - 1))), .int (gI σ r14 (Int32.toNatClampNeg (a2 + (-1))))]) dX3_worth_276 mRX3_95 (tX3_joined  hk17) rfl (Nat.le_of_ble_eq_true rfl) (Nat.le_of_ble_eq_true rfl) (Nat.le_of_ble_eq_true rfl) (q := 279) rfl ?_
    intro bk17
    obtain ⟨g18, h⟩ := iteS h
    refine J_iast dX3_worth_279 fr14 (ixB_ok g18) (q := 280) rfl ?_
    refine J_pick [1, 2, 0, 3, 4] rfl ?_
    exact tX3_worth_b280 ha0 ha1 h hc he0 hr

def fX3_worth_b206 (a0 : Nat) (a1 : Nat) (a2 : Int32) (a3 : Int32) (a4 : Int32) (z0 : Nat) (z1 : Int32) (z2 : Int32) (σ : Mm) : Option ((Int32 × Int32 × Int32 × Mm) ⊕ ((Int32 × Mm) ⊕ Int32 × Mm)) :=
  if ixB z1 (ln z0) = true then fX3_worth_b280 a0 a1 (a2 + 1) a3 a4 (sI σ z0 (Int32.toNatClampNeg z1) z2) else none
set_option maxRecDepth 20000 in
set_option maxHeartbeats 2000000 in
theorem tX3_worth_b206 {X : XS} {n : Nat} {σ : Mm} {F : Nat × Option Value × Mm} {a0 : Nat} {a1 : Nat} {a2 : Int32} {a3 : Int32} {a4 : Int32} {z0 : Nat} {z1 : Int32} {z2 : Int32} (ha0 : RT n a0 103) (ha1 : RT n a1 200) (hz0 : RT n z0 200) {res : (Int32 × Int32 × Int32 × Mm) ⊕ ((Int32 × Mm) ⊕ Int32 × Mm)} (h : fX3_worth_b206 a0 a1 a2 a3 a4 z0 z1 z2 σ = some res) (hc : ∀ (b2 : Int32) (b3 : Int32) (b4 : Int32) (s : Mm), res = .inl (b2, b3, b4, s) → J X mX3_worth 2 0 0 F 7 [(0, .ref a0), (1, .ref a1), (2, .int b2), (3, .int b3), (4, .int b4)] [] n s) (he0 : ∀ (b2 : Int32) (s : Mm), res = .inr (Sum.inr (b2, s)) → J X mX3_worth 2 0 0 F 62 [(0, .ref a0), (2, .int b2)] [] n s) (hr : ∀ (v : Int32) (s : Mm), res = .inr (Sum.inl (v, s)) → F = (n, some (.int v), s)) : J X mX3_worth 2 0 0 F 206 [(0, .ref a0), (1, .ref a1), (2, .int a2), (3, .int a3), (4, .int a4)] [.int z2, .int z1, .ref z0] n σ := by
  unfold fX3_worth_b206 at h
  obtain ⟨g25, h⟩ := iteS h
  refine J_iast dX3_worth_206 hz0 (ixB_ok g25) (q := 207) rfl ?_
  refine J_iinc (z := 2) (y := (a2 + 1)) (lv' := [(2, .int (a2 + 1)), (0, .ref a0), (1, .ref a1), (3, .int a3), (4, .int a4)]) dX3_worth_207 rfl rfl (by decide) rfl (q := 210) rfl ?_
  refine J_goto (tgt := 280) dX3_worth_210 (by decide) ?_
  refine J_pick [1, 2, 0, 3, 4] rfl ?_
  exact tX3_worth_b280 ha0 ha1 h hc he0 hr

def fX3_worth_b205 (a0 : Nat) (a1 : Nat) (a2 : Int32) (a3 : Int32) (a4 : Int32) (z0 : Nat) (z1 : Int32) (σ : Mm) : Option ((Int32 × Int32 × Int32 × Mm) ⊕ ((Int32 × Mm) ⊕ Int32 × Mm)) :=
  fX3_worth_b206 a0 a1 a2 a3 a4 z0 z1 0 σ
set_option maxRecDepth 20000 in
set_option maxHeartbeats 2000000 in
theorem tX3_worth_b205 {X : XS} {n : Nat} {σ : Mm} {F : Nat × Option Value × Mm} {a0 : Nat} {a1 : Nat} {a2 : Int32} {a3 : Int32} {a4 : Int32} {z0 : Nat} {z1 : Int32} (ha0 : RT n a0 103) (ha1 : RT n a1 200) (hz0 : RT n z0 200) {res : (Int32 × Int32 × Int32 × Mm) ⊕ ((Int32 × Mm) ⊕ Int32 × Mm)} (h : fX3_worth_b205 a0 a1 a2 a3 a4 z0 z1 σ = some res) (hc : ∀ (b2 : Int32) (b3 : Int32) (b4 : Int32) (s : Mm), res = .inl (b2, b3, b4, s) → J X mX3_worth 2 0 0 F 7 [(0, .ref a0), (1, .ref a1), (2, .int b2), (3, .int b3), (4, .int b4)] [] n s) (he0 : ∀ (b2 : Int32) (s : Mm), res = .inr (Sum.inr (b2, s)) → J X mX3_worth 2 0 0 F 62 [(0, .ref a0), (2, .int b2)] [] n s) (hr : ∀ (v : Int32) (s : Mm), res = .inr (Sum.inl (v, s)) → F = (n, some (.int v), s)) : J X mX3_worth 2 0 0 F 205 [(0, .ref a0), (1, .ref a1), (2, .int a2), (3, .int a3), (4, .int a4)] [.int z1, .ref z0] n σ := by
  unfold fX3_worth_b205 at h
  refine J_iconst (x := 0) dX3_worth_205 (by decide) (q := 206) rfl ?_
  refine J_pick [0, 1, 2, 3, 4] rfl ?_
  exact tX3_worth_b206 ha0 ha1 hz0 h hc he0 hr

def fX3_worth_b116 (a0 : Nat) (a1 : Nat) (a4 : Int32) (z0 : Int32) (σ : Mm) : Option ((Int32 × Int32 × Int32 × Mm) ⊕ ((Int32 × Mm) ⊕ Int32 × Mm)) :=
  fX3_worth_b280 a0 a1 0 z0 a4 σ
set_option maxRecDepth 20000 in
set_option maxHeartbeats 2000000 in
theorem tX3_worth_b116 {X : XS} {n : Nat} {σ : Mm} {F : Nat × Option Value × Mm} {a0 : Nat} {a1 : Nat} {a4 : Int32} {z0 : Int32} (ha0 : RT n a0 103) (ha1 : RT n a1 200) {res : (Int32 × Int32 × Int32 × Mm) ⊕ ((Int32 × Mm) ⊕ Int32 × Mm)} (h : fX3_worth_b116 a0 a1 a4 z0 σ = some res) (hc : ∀ (b2 : Int32) (b3 : Int32) (b4 : Int32) (s : Mm), res = .inl (b2, b3, b4, s) → J X mX3_worth 2 0 0 F 7 [(0, .ref a0), (1, .ref a1), (2, .int b2), (3, .int b3), (4, .int b4)] [] n s) (he0 : ∀ (b2 : Int32) (s : Mm), res = .inr (Sum.inr (b2, s)) → J X mX3_worth 2 0 0 F 62 [(0, .ref a0), (2, .int b2)] [] n s) (hr : ∀ (v : Int32) (s : Mm), res = .inr (Sum.inl (v, s)) → F = (n, some (.int v), s)) : J X mX3_worth 2 0 0 F 116 [(0, .ref a0), (1, .ref a1), (4, .int a4)] [.int z0] n σ := by
  unfold fX3_worth_b116 at h
  refine J_istore_n (lv' := [(3, .int z0), (0, .ref a0), (1, .ref a1), (4, .int a4)]) dX3_worth_116 rfl (by decide) rfl (q := 117) rfl ?_
  refine J_iconst (x := 0) dX3_worth_117 (by decide) (q := 118) rfl ?_
  refine J_istore_n (lv' := [(2, .int 0), (3, .int z0), (0, .ref a0), (1, .ref a1), (4, .int a4)]) dX3_worth_118 rfl (by decide) rfl (q := 119) rfl ?_
  refine J_goto (tgt := 280) dX3_worth_119 (by decide) ?_
  refine J_pick [2, 3, 0, 1, 4] rfl ?_
  exact tX3_worth_b280 ha0 ha1 h hc he0 hr

def fX3_worth_b111 (a0 : Nat) (a1 : Nat) (a4 : Int32) (σ : Mm) : Option ((Int32 × Int32 × Int32 × Mm) ⊕ ((Int32 × Mm) ⊕ Int32 × Mm)) :=
  fX3_worth_b116 a0 a1 a4 1 σ
set_option maxRecDepth 20000 in
set_option maxHeartbeats 2000000 in
theorem tX3_worth_b111 {X : XS} {n : Nat} {σ : Mm} {F : Nat × Option Value × Mm} {a0 : Nat} {a1 : Nat} {a4 : Int32} (ha0 : RT n a0 103) (ha1 : RT n a1 200) {res : (Int32 × Int32 × Int32 × Mm) ⊕ ((Int32 × Mm) ⊕ Int32 × Mm)} (h : fX3_worth_b111 a0 a1 a4 σ = some res) (hc : ∀ (b2 : Int32) (b3 : Int32) (b4 : Int32) (s : Mm), res = .inl (b2, b3, b4, s) → J X mX3_worth 2 0 0 F 7 [(0, .ref a0), (1, .ref a1), (2, .int b2), (3, .int b3), (4, .int b4)] [] n s) (he0 : ∀ (b2 : Int32) (s : Mm), res = .inr (Sum.inr (b2, s)) → J X mX3_worth 2 0 0 F 62 [(0, .ref a0), (2, .int b2)] [] n s) (hr : ∀ (v : Int32) (s : Mm), res = .inr (Sum.inl (v, s)) → F = (n, some (.int v), s)) : J X mX3_worth 2 0 0 F 111 [(0, .ref a0), (1, .ref a1), (4, .int a4)] [] n σ := by
  unfold fX3_worth_b111 at h
  refine J_iconst (x := 1) dX3_worth_111 (by decide) (q := 112) rfl ?_
  refine J_goto (tgt := 116) dX3_worth_112 (by decide) ?_
  refine J_pick [0, 1, 2] rfl ?_
  exact tX3_worth_b116 ha0 ha1 h hc he0 hr

def fX3_worth_b51 (a0 : Nat) (a1 : Nat) (a2 : Int32) (a4 : Int32) (z0 : Int32) (σ : Mm) : Option ((Int32 × Int32 × Int32 × Mm) ⊕ ((Int32 × Mm) ⊕ Int32 × Mm)) :=
  fX3_worth_b280 a0 a1 a2 z0 a4 σ
set_option maxRecDepth 20000 in
set_option maxHeartbeats 2000000 in
theorem tX3_worth_b51 {X : XS} {n : Nat} {σ : Mm} {F : Nat × Option Value × Mm} {a0 : Nat} {a1 : Nat} {a2 : Int32} {a4 : Int32} {z0 : Int32} (ha0 : RT n a0 103) (ha1 : RT n a1 200) {res : (Int32 × Int32 × Int32 × Mm) ⊕ ((Int32 × Mm) ⊕ Int32 × Mm)} (h : fX3_worth_b51 a0 a1 a2 a4 z0 σ = some res) (hc : ∀ (b2 : Int32) (b3 : Int32) (b4 : Int32) (s : Mm), res = .inl (b2, b3, b4, s) → J X mX3_worth 2 0 0 F 7 [(0, .ref a0), (1, .ref a1), (2, .int b2), (3, .int b3), (4, .int b4)] [] n s) (he0 : ∀ (b2 : Int32) (s : Mm), res = .inr (Sum.inr (b2, s)) → J X mX3_worth 2 0 0 F 62 [(0, .ref a0), (2, .int b2)] [] n s) (hr : ∀ (v : Int32) (s : Mm), res = .inr (Sum.inl (v, s)) → F = (n, some (.int v), s)) : J X mX3_worth 2 0 0 F 51 [(0, .ref a0), (1, .ref a1), (2, .int a2), (4, .int a4)] [.int z0] n σ := by
  unfold fX3_worth_b51 at h
  refine J_istore_n (lv' := [(3, .int z0), (0, .ref a0), (1, .ref a1), (2, .int a2), (4, .int a4)]) dX3_worth_51 rfl (by decide) rfl (q := 52) rfl ?_
  refine J_goto (tgt := 280) dX3_worth_52 (by decide) ?_
  refine J_pick [1, 2, 3, 0, 4] rfl ?_
  exact tX3_worth_b280 ha0 ha1 h hc he0 hr

def fX3_worth_l7 (a0 : Nat) (a1 : Nat) (a2 : Int32) (a3 : Int32) (a4 : Int32) (σ : Mm) : Option ((Int32 × Int32 × Int32 × Mm) ⊕ ((Int32 × Mm) ⊕ Int32 × Mm)) :=
  if (gI σ a0 4) ≤ a4 then some (Sum.inr (Sum.inl (0, σ))) else (gR σ a0 1).bind fun r2 => if (nI (ln r2)) ≤ a4 then some (Sum.inr (Sum.inl (0, σ))) else if ixB a4 (ln r2) = true then if a3 = 0 then if (gI σ r2 (Int32.toNatClampNeg a4)) = 59 then some (Sum.inr (Sum.inr (a2, σ))) else if (gI σ r2 (Int32.toNatClampNeg a4)) = 63 then if (a2 + (-1)) < 0 then fX3_worth_b111 a0 a1 a4 σ else (gR σ a0 3).bind fun r34 => if ixB (a2 + (-1)) (ln r34) = true then if (gI σ r34 (Int32.toNatClampNeg (a2 + (-1)))) = 0 then fX3_worth_b111 a0 a1 a4 σ else fX3_worth_b116 a0 a1 a4 0 σ else none else (gR σ a0 3).bind fun r8 => if a2 < (nI (ln r8)) then if (gI σ r2 (Int32.toNatClampNeg a4)) = 48 then (gR σ a0 2).bind fun r30 => if ixB a4 (ln r30) = true then if ixB a2 (ln r8) = true then fX3_worth_b280 a0 a1 (a2 + 1) a3 a4 (sI σ r8 (Int32.toNatClampNeg a2) (gI σ r30 (Int32.toNatClampNeg a4))) else none else none else if (gI σ r2 (Int32.toNatClampNeg a4)) = 97 then (gR σ a0 2).bind fun r22 => if ixB a4 (ln r22) = true then if (gI σ r22 (Int32.toNatClampNeg a4)) < 0 then fX3_worth_b205 a0 a1 a2 a3 a4 r8 a2 σ else if ixB a4 (ln r22) = true then if (nI (ln a1)) ≤ (gI σ r22 (Int32.toNatClampNeg a4)) then fX3_worth_b205 a0 a1 a2 a3 a4 r8 a2 σ else if ixB a4 (ln r22) = true then if ixB (gI σ r22 (Int32.toNatClampNeg a4)) (ln a1) = true then fX3_worth_b206 a0 a1 a2 a3 a4 r8 a2 (gI σ a1 (Int32.toNatClampNeg (gI σ r22 (Int32.toNatClampNeg a4)))) σ else none else none else none else none else if (gI σ r2 (Int32.toNatClampNeg a4)) = 33 then if a2 ≤ 0 then fX3_worth_b245 a0 a1 a2 a3 a4 (gI σ r2 (Int32.toNatClampNeg a4)) σ else if ixB (a2 - 1) (ln r8) = true then if ixB (a2 - 1) (ln r8) = true then fX3_worth_b280 a0 a1 a2 a3 a4 (sI σ r8 (Int32.toNatClampNeg (a2 - 1)) (1 - (gI σ r8 (Int32.toNatClampNeg (a2 - 1))))) else none else none else fX3_worth_b245 a0 a1 a2 a3 a4 (gI σ r2 (Int32.toNatClampNeg a4)) σ else some (Sum.inr (Sum.inl (0, σ))) else if (gI σ r2 (Int32.toNatClampNeg a4)) = 59 then fX3_worth_b51 a0 a1 a2 a4 0 σ else fX3_worth_b51 a0 a1 a2 a4 1 σ else none
set_option maxRecDepth 20000 in
set_option maxHeartbeats 2000000 in
theorem tX3_worth_l7 {X : XS} {n : Nat} {σ : Mm} {F : Nat × Option Value × Mm} {a0 : Nat} {a1 : Nat} {a2 : Int32} {a3 : Int32} {a4 : Int32} (ha0 : RT n a0 103) (ha1 : RT n a1 200) {res : (Int32 × Int32 × Int32 × Mm) ⊕ ((Int32 × Mm) ⊕ Int32 × Mm)} (h : fX3_worth_l7 a0 a1 a2 a3 a4 σ = some res) (hc : ∀ (b2 : Int32) (b3 : Int32) (b4 : Int32) (s : Mm), res = .inl (b2, b3, b4, s) → J X mX3_worth 2 0 0 F 7 [(0, .ref a0), (1, .ref a1), (2, .int b2), (3, .int b3), (4, .int b4)] [] n s) (he0 : ∀ (b2 : Int32) (s : Mm), res = .inr (Sum.inr (b2, s)) → J X mX3_worth 2 0 0 F 62 [(0, .ref a0), (2, .int b2)] [] n s) (hr : ∀ (v : Int32) (s : Mm), res = .inr (Sum.inl (v, s)) → F = (n, some (.int v), s)) : J X mX3_worth 2 0 0 F 7 [(0, .ref a0), (1, .ref a1), (2, .int a2), (3, .int a3), (4, .int a4)] [] n σ := by
  unfold fX3_worth_l7 at h
  refine J_iload (z := 4) dX3_worth_7 rfl (q := 9) rfl ?_
  refine J_aload_n (z := 0) dX3_worth_9 rfl rfl (q := 10) rfl ?_
  refine J_getI dX3_worth_10 lRX3_25 ha0 rfl (q := 13) rfl ?_
  refine J_icmp_ge (tgt := 286) dX3_worth_13 (by decide) (q := 16) rfl (fun c0 => ?_) (fun c0 => ?_)
  · rw [if_pos c0] at h
    refine J_iconst (x := 0) dX3_worth_286 (by decide) (q := 287) rfl ?_
    have h := Option.some.inj h
    exact J_ireturn dX3_worth_287 rfl rfl (hr _ _ h.symm)
  · rw [if_neg c0] at h
    refine J_iload (z := 4) dX3_worth_16 rfl (q := 18) rfl ?_
    refine J_aload_n (z := 0) dX3_worth_18 rfl rfl (q := 19) rfl ?_
    obtain ⟨r2, er2, h⟩ := bindS h
    refine J_getR dX3_worth_19 lRX3_11 ha0 rfl (by decide) er2 (q := 22) rfl (fun fr2 => ?_)
    refine J_alen (t := 0) dX3_worth_22 fr2 (by decide) rfl (q := 23) rfl ?_
    refine J_icmp_ge (tgt := 286) dX3_worth_23 (by decide) (q := 26) rfl (fun c2 => ?_) (fun c2 => ?_)
    · rw [if_pos c2] at h
      refine J_iconst (x := 0) dX3_worth_286 (by decide) (q := 287) rfl ?_
      have h := Option.some.inj h
      exact J_ireturn dX3_worth_287 rfl rfl (hr _ _ h.symm)
    · rw [if_neg c2] at h
      refine J_aload_n (z := 0) dX3_worth_26 rfl rfl (q := 27) rfl ?_
      refine J_getR dX3_worth_27 lRX3_11 ha0 rfl (by decide) er2 (q := 30) rfl (fun _ => ?_)
      refine J_iload (z := 4) dX3_worth_30 rfl (q := 32) rfl ?_
      obtain ⟨g4, h⟩ := iteS h
      refine J_iald dX3_worth_32 fr2 (ixB_ok g4) (q := 33) rfl ?_
      refine J_istore (lv' := [(5, .int (gI σ r2 (Int32.toNatClampNeg a4))), (0, .ref a0), (1, .ref a1), (2, .int a2), (3, .int a3), (4, .int a4)]) dX3_worth_33 (by decide) rfl (q := 35) rfl ?_
      refine J_iload_n (z := 4) dX3_worth_35 rfl rfl (q := 36) rfl ?_
      refine J_if_eq (tgt := 55) dX3_worth_36 (by decide) (q := 39) rfl (fun c4 => ?_) (fun c4 => ?_)
      · rw [if_pos c4] at h
        refine J_iload (z := 0) dX3_worth_55 rfl (q := 57) rfl ?_
        refine J_bipush (x := 59) dX3_worth_57 (by decide) (q := 59) rfl ?_
        refine J_icmp_ne (tgt := 88) dX3_worth_59 (by decide) (q := 62) rfl (fun c5 => ?_) (fun c5 => ?_)
        · rw [if_neg c5] at h
          refine J_iload (z := 0) dX3_worth_88 rfl (q := 90) rfl ?_
          refine J_bipush (x := 63) dX3_worth_90 (by decide) (q := 92) rfl ?_
          refine J_icmp_ne (tgt := 122) dX3_worth_92 (by decide) (q := 95) rfl (fun c6 => ?_) (fun c6 => ?_)
          · rw [if_neg c6] at h
            refine J_iload_n (z := 3) dX3_worth_122 rfl rfl (q := 123) rfl ?_
            refine J_aload_n (z := 1) dX3_worth_123 rfl rfl (q := 124) rfl ?_
            obtain ⟨r8, er8, h⟩ := bindS h
            refine J_getR dX3_worth_124 lRX3_18 ha0 rfl (by decide) er8 (q := 127) rfl (fun fr8 => ?_)
            refine J_alen (t := 0) dX3_worth_127 fr8 (by decide) rfl (q := 128) rfl ?_
            refine J_icmp_lt (tgt := 133) dX3_worth_128 (by decide) (q := 131) rfl (fun c8 => ?_) (fun c8 => ?_)
            · rw [if_pos c8] at h
              refine J_iload (z := 0) dX3_worth_133 rfl (q := 135) rfl ?_
              refine J_bipush (x := 48) dX3_worth_135 (by decide) (q := 137) rfl ?_
              refine J_icmp_ne (tgt := 159) dX3_worth_137 (by decide) (q := 140) rfl (fun c9 => ?_) (fun c9 => ?_)
              · rw [if_neg c9] at h
                refine J_iload (z := 0) dX3_worth_159 rfl (q := 161) rfl ?_
                refine J_bipush (x := 97) dX3_worth_161 (by decide) (q := 163) rfl ?_
                refine J_icmp_ne (tgt := 213) dX3_worth_163 (by decide) (q := 166) rfl (fun c10 => ?_) (fun c10 => ?_)
                · rw [if_neg c10] at h
                  refine J_iload (z := 0) dX3_worth_213 rfl (q := 215) rfl ?_
                  refine J_bipush (x := 33) dX3_worth_215 (by decide) (q := 217) rfl ?_
                  refine J_icmp_ne (tgt := 245) dX3_worth_217 (by decide) (q := 220) rfl (fun c11 => ?_) (fun c11 => ?_)
                  · rw [if_neg c11] at h
                    refine J_pick [1, 2, 3, 4, 5, 0] rfl ?_
                    exact tX3_worth_b245 ha0 ha1 h hc he0 hr
                  · rw [if_pos c11] at h
                    refine J_iload_n (z := 3) dX3_worth_220 rfl rfl (q := 221) rfl ?_
                    refine J_if_le (tgt := 245) dX3_worth_221 (by decide) (q := 224) rfl (fun c18 => ?_) (fun c18 => ?_)
                    · rw [if_pos c18] at h
                      refine J_pick [1, 2, 3, 4, 5, 0] rfl ?_
                      exact tX3_worth_b245 ha0 ha1 h hc he0 hr
                    · rw [if_neg c18] at h
                      refine J_aload_n (z := 1) dX3_worth_224 rfl rfl (q := 225) rfl ?_
                      refine J_getR dX3_worth_225 lRX3_18 ha0 rfl (by decide) er8 (q := 228) rfl (fun _ => ?_)
                      refine J_iload_n (z := 3) dX3_worth_228 rfl rfl (q := 229) rfl ?_
                      refine J_iconst (x := 1) dX3_worth_229 (by decide) (q := 230) rfl ?_
                      refine J_isub dX3_worth_230  (q := 231) rfl ?_
                      refine J_iconst (x := 1) dX3_worth_231 (by decide) (q := 232) rfl ?_
                      refine J_aload_n (z := 1) dX3_worth_232 rfl rfl (q := 233) rfl ?_
                      refine J_getR dX3_worth_233 lRX3_18 ha0 rfl (by decide) er8 (q := 236) rfl (fun _ => ?_)
                      refine J_iload_n (z := 3) dX3_worth_236 rfl rfl (q := 237) rfl ?_
                      refine J_iconst (x := 1) dX3_worth_237 (by decide) (q := 238) rfl ?_
                      refine J_isub dX3_worth_238  (q := 239) rfl ?_
                      obtain ⟨g20, h⟩ := iteS h
                      refine J_iald dX3_worth_239 fr8 (ixB_ok g20) (q := 240) rfl ?_
                      refine J_isub dX3_worth_240  (q := 241) rfl ?_
                      obtain ⟨g21, h⟩ := iteS h
                      refine J_iast dX3_worth_241 fr8 (ixB_ok g21) (q := 242) rfl ?_
                      refine J_goto (tgt := 280) dX3_worth_242 (by decide) ?_
                      refine J_pick [1, 2, 3, 4, 5] rfl ?_
                      exact tX3_worth_b280 ha0 ha1 h hc he0 hr
                · rw [if_pos c10] at h
                  refine J_aload_n (z := 1) dX3_worth_166 rfl rfl (q := 167) rfl ?_
                  refine J_getR dX3_worth_167 lRX3_18 ha0 rfl (by decide) er8 (q := 170) rfl (fun _ => ?_)
                  refine J_iload_n (z := 3) dX3_worth_170 rfl rfl (q := 171) rfl ?_
                  refine J_aload_n (z := 1) dX3_worth_171 rfl rfl (q := 172) rfl ?_
                  obtain ⟨r22, er22, h⟩ := bindS h
                  refine J_getR dX3_worth_172 lRX3_15 ha0 rfl (by decide) er22 (q := 175) rfl (fun fr22 => ?_)
                  refine J_iload (z := 5) dX3_worth_175 rfl (q := 177) rfl ?_
                  obtain ⟨g23, h⟩ := iteS h
                  refine J_iald dX3_worth_177 fr22 (ixB_ok g23) (q := 178) rfl ?_
                  refine J_if_lt (tgt := 205) dX3_worth_178 (by decide) (q := 181) rfl (fun c23 => ?_) (fun c23 => ?_)
                  · rw [if_pos c23] at h
                    refine J_pick [1, 2, 3, 4, 5] rfl ?_
                    exact tX3_worth_b205 ha0 ha1 fr8 h hc he0 hr
                  · rw [if_neg c23] at h
                    refine J_aload_n (z := 1) dX3_worth_181 rfl rfl (q := 182) rfl ?_
                    refine J_getR dX3_worth_182 lRX3_15 ha0 rfl (by decide) er22 (q := 185) rfl (fun _ => ?_)
                    refine J_iload (z := 5) dX3_worth_185 rfl (q := 187) rfl ?_
                    obtain ⟨g26, h⟩ := iteS h
                    refine J_iald dX3_worth_187 fr22 (ixB_ok g26) (q := 188) rfl ?_
                    refine J_aload_n (z := 2) dX3_worth_188 rfl rfl (q := 189) rfl ?_
                    refine J_alen (t := 0) dX3_worth_189 ha1 (by decide) rfl (q := 190) rfl ?_
                    refine J_icmp_ge (tgt := 205) dX3_worth_190 (by decide) (q := 193) rfl (fun c26 => ?_) (fun c26 => ?_)
                    · rw [if_pos c26] at h
                      refine J_pick [1, 2, 3, 4, 5] rfl ?_
                      exact tX3_worth_b205 ha0 ha1 fr8 h hc he0 hr
                    · rw [if_neg c26] at h
                      refine J_aload_n (z := 2) dX3_worth_193 rfl rfl (q := 194) rfl ?_
                      refine J_aload_n (z := 1) dX3_worth_194 rfl rfl (q := 195) rfl ?_
                      refine J_getR dX3_worth_195 lRX3_15 ha0 rfl (by decide) er22 (q := 198) rfl (fun _ => ?_)
                      refine J_iload (z := 5) dX3_worth_198 rfl (q := 200) rfl ?_
                      obtain ⟨g28, h⟩ := iteS h
                      refine J_iald dX3_worth_200 fr22 (ixB_ok g28) (q := 201) rfl ?_
                      obtain ⟨g29, h⟩ := iteS h
                      refine J_iald dX3_worth_201 ha1 (ixB_ok g29) (q := 202) rfl ?_
                      refine J_goto (tgt := 206) dX3_worth_202 (by decide) ?_
                      refine J_pick [1, 2, 3, 4, 5] rfl ?_
                      exact tX3_worth_b206 ha0 ha1 fr8 h hc he0 hr
              · rw [if_pos c9] at h
                refine J_aload_n (z := 1) dX3_worth_140 rfl rfl (q := 141) rfl ?_
                refine J_getR dX3_worth_141 lRX3_18 ha0 rfl (by decide) er8 (q := 144) rfl (fun _ => ?_)
                refine J_iload_n (z := 3) dX3_worth_144 rfl rfl (q := 145) rfl ?_
                refine J_aload_n (z := 1) dX3_worth_145 rfl rfl (q := 146) rfl ?_
                obtain ⟨r30, er30, h⟩ := bindS h
                refine J_getR dX3_worth_146 lRX3_15 ha0 rfl (by decide) er30 (q := 149) rfl (fun fr30 => ?_)
                refine J_iload (z := 5) dX3_worth_149 rfl (q := 151) rfl ?_
                obtain ⟨g31, h⟩ := iteS h
                refine J_iald dX3_worth_151 fr30 (ixB_ok g31) (q := 152) rfl ?_
                obtain ⟨g32, h⟩ := iteS h
                refine J_iast dX3_worth_152 fr8 (ixB_ok g32) (q := 153) rfl ?_
                refine J_iinc (z := 3) (y := (a2 + 1)) (lv' := [(2, .int (a2 + 1)), (5, .int (gI σ r2 (Int32.toNatClampNeg a4))), (0, .ref a0), (1, .ref a1), (3, .int a3), (4, .int a4)]) dX3_worth_153 rfl rfl (by decide) rfl (q := 156) rfl ?_
                refine J_goto (tgt := 280) dX3_worth_156 (by decide) ?_
                refine J_pick [2, 3, 0, 4, 5] rfl ?_
                exact tX3_worth_b280 ha0 ha1 h hc he0 hr
            · rw [if_neg c8] at h
              refine J_iconst (x := 0) dX3_worth_131 (by decide) (q := 132) rfl ?_
              have h := Option.some.inj h
              exact J_ireturn dX3_worth_132 rfl rfl (hr _ _ h.symm)
          · rw [if_pos c6] at h
            refine J_iinc (z := 3) (y := (a2 + (-1))) (lv' := [(2, .int (a2 + (-1))), (5, .int (gI σ r2 (Int32.toNatClampNeg a4))), (0, .ref a0), (1, .ref a1), (3, .int a3), (4, .int a4)]) dX3_worth_95 rfl rfl (by decide) rfl (q := 98) rfl ?_
            refine J_iload_n (z := 0) dX3_worth_98 rfl rfl (q := 99) rfl ?_
            refine J_if_lt (tgt := 111) dX3_worth_99 (by decide) (q := 102) rfl (fun c32 => ?_) (fun c32 => ?_)
            · rw [if_pos c32] at h
              refine J_pick [2, 3, 5] rfl ?_
              exact tX3_worth_b111 ha0 ha1 h hc he0 hr
            · rw [if_neg c32] at h
              refine J_aload_n (z := 2) dX3_worth_102 rfl rfl (q := 103) rfl ?_
              obtain ⟨r34, er34, h⟩ := bindS h
              refine J_getR dX3_worth_103 lRX3_18 ha0 rfl (by decide) er34 (q := 106) rfl (fun fr34 => ?_)
              refine J_iload_n (z := 0) dX3_worth_106 rfl rfl (q := 107) rfl ?_
              obtain ⟨g35, h⟩ := iteS h
              refine J_iald dX3_worth_107 fr34 (ixB_ok g35) (q := 108) rfl ?_
              refine J_if_ne (tgt := 115) dX3_worth_108 (by decide) (q := 111) rfl (fun c35 => ?_) (fun c35 => ?_)
              · rw [if_neg c35] at h
                refine J_iconst (x := 0) dX3_worth_115 (by decide) (q := 116) rfl ?_
                refine J_pick [2, 3, 5] rfl ?_
                exact tX3_worth_b116 ha0 ha1 h hc he0 hr
              · rw [if_pos c35] at h
                refine J_pick [2, 3, 5] rfl ?_
                exact tX3_worth_b111 ha0 ha1 h hc he0 hr
        · rw [if_pos c5] at h
          have h := Option.some.inj h
          refine J_pick [1, 3] rfl ?_
          exact he0 _ _ h.symm
      · rw [if_neg c4] at h
        refine J_iload (z := 0) dX3_worth_39 rfl (q := 41) rfl ?_
        refine J_bipush (x := 59) dX3_worth_41 (by decide) (q := 43) rfl ?_
        refine J_icmp_eq (tgt := 50) dX3_worth_43 (by decide) (q := 46) rfl (fun c36 => ?_) (fun c36 => ?_)
        · rw [if_pos c36] at h
          refine J_iconst (x := 0) dX3_worth_50 (by decide) (q := 51) rfl ?_
          refine J_pick [1, 2, 3, 5] rfl ?_
          exact tX3_worth_b51 ha0 ha1 h hc he0 hr
        · rw [if_neg c36] at h
          refine J_iconst (x := 1) dX3_worth_46 (by decide) (q := 47) rfl ?_
          refine J_goto (tgt := 51) dX3_worth_47 (by decide) ?_
          refine J_pick [1, 2, 3, 5] rfl ?_
          exact tX3_worth_b51 ha0 ha1 h hc he0 hr

def fX3_worth_w7 (a0 : Nat) (a1 : Nat) (a2 : Int32) (a3 : Int32) (a4 : Int32) (σ : Mm) : Option ((Int32 × Mm) ⊕ Int32 × Mm) :=
  wh (fun a : Int32 × Int32 × Int32 × Mm => fX3_worth_l7 a0 a1 a.1 a.2.1 a.2.2.1 a.2.2.2) BIG (a2, a3, a4, σ)
set_option maxRecDepth 20000 in
set_option maxHeartbeats 2000000 in
theorem tX3_worth_w7 {X : XS} {n : Nat} {σ : Mm} {F : Nat × Option Value × Mm} {a0 : Nat} {a1 : Nat} {a2 : Int32} {a3 : Int32} {a4 : Int32} (ha0 : RT n a0 103) (ha1 : RT n a1 200) {res : (Int32 × Mm) ⊕ Int32 × Mm} (h : fX3_worth_w7 a0 a1 a2 a3 a4 σ = some res) (he0 : ∀ (b2 : Int32) (s : Mm), res = (Sum.inr (b2, s)) → J X mX3_worth 2 0 0 F 62 [(0, .ref a0), (2, .int b2)] [] n s) (hr : ∀ (v : Int32) (s : Mm), res = (Sum.inl (v, s)) → F = (n, some (.int v), s)) : J X mX3_worth 2 0 0 F 7 [(0, .ref a0), (1, .ref a1), (2, .int a2), (3, .int a3), (4, .int a4)] [] n σ := by
  unfold fX3_worth_w7 at h
  refine wh_rule (P := fun a : Int32 × Int32 × Int32 × Mm => J X mX3_worth 2 0 0 F 7 [(0, .ref a0), (1, .ref a1), (2, .int a.1), (3, .int a.2.1), (4, .int a.2.2.1)] [] n a.2.2.2) (K := fun b => b = res) ?_ _ _ _ h rfl
  intro a
  refine ⟨fun a2 hb hP => ?_, fun b hb hK => ?_⟩
  · exact tX3_worth_l7 ha0 ha1 hb (fun _ _ _ _ e => by cases e; exact hP) (fun _ _ e => by cases e) (fun _ _ e => by cases e)
  · subst hK
    exact tX3_worth_l7 ha0 ha1 hb (fun _ _ _ _ e => by cases e) (fun v0 v1 e => he0 v0 v1 (Sum.inr.inj e)) (fun v0 v1 e => hr v0 v1 (Sum.inr.inj e))

def fX3_worth (a0 : Nat) (a1 : Nat) (σ : Mm) : Option (Int32 × Mm) :=
  (fX3_worth_w7 a0 a1 0 0 0 σ).bind (Sum.elim (fun eo380 => some eo380) (fun eo381 => (fun xo38_2 so38 => if xo38_2 ≤ 0 then some (0, so38) else (gR so38 a0 3).bind fun r40 => if (nI (ln r40)) < xo38_2 then some (0, so38) else if ixB (xo38_2 - 1) (ln r40) = true then some ((gI so38 r40 (Int32.toNatClampNeg (xo38_2 - 1))), so38) else none) eo381.1 eo381.2))
set_option maxRecDepth 20000 in
set_option maxHeartbeats 2000000 in
theorem tX3_worth {X : XS} {n : Nat} {σ : Mm} {a0 : Nat} {a1 : Nat} (ha0 : RT n a0 103) (ha1 : RT n a1 200) {res : Int32 × Mm} (h : fX3_worth a0 a1 σ = some res) : MT X yX3_worth mX3_worth 2 0 0 [.ref a0, .ref a1] n σ (n, some (.int res.1), res.2) := by
  unfold fX3_worth at h
  refine MT_of (by decide +kernel) rfl (fun h => by cases h) (Nat.le_of_ble_eq_true rfl) ?_
  show J X mX3_worth 2 0 0 (n, some (.int res.1), res.2) 0 [(0, .ref a0), (1, .ref a1)] [] n σ
  refine J_iconst (x := 0) dX3_worth_0 (by decide) (q := 1) rfl ?_
  refine J_istore_n (lv' := [(2, .int 0), (0, .ref a0), (1, .ref a1)]) dX3_worth_1 rfl (by decide) rfl (q := 2) rfl ?_
  refine J_iconst (x := 0) dX3_worth_2 (by decide) (q := 3) rfl ?_
  refine J_istore_n (lv' := [(3, .int 0), (2, .int 0), (0, .ref a0), (1, .ref a1)]) dX3_worth_3 rfl (by decide) rfl (q := 4) rfl ?_
  refine J_iconst (x := 0) dX3_worth_4 (by decide) (q := 5) rfl ?_
  refine J_istore (lv' := [(4, .int 0), (3, .int 0), (2, .int 0), (0, .ref a0), (1, .ref a1)]) dX3_worth_5 (by decide) rfl (q := 7) rfl ?_
  obtain ⟨o38, hlo38, h⟩ := bindS h
  refine J_pick [3, 4, 2, 1, 0] rfl ?_
  refine tX3_worth_w7 ha0 ha1 hlo38 ?_ ?_
  · intro xo38_2 so38 qo38
    rw [qo38] at h
    try dsimp only [Sum.elim_inl, Sum.elim_inr] at h
    refine J_iload_n (z := 1) dX3_worth_62 rfl rfl (q := 63) rfl ?_
    refine J_if_le (tgt := 86) dX3_worth_63 (by decide) (q := 66) rfl (fun c38 => ?_) (fun c38 => ?_)
    · rw [if_pos c38] at h
      refine J_iconst (x := 0) dX3_worth_86 (by decide) (q := 87) rfl ?_
      have h := Option.some.inj h
      subst h
      exact J_ireturn dX3_worth_87 rfl rfl rfl
    · rw [if_neg c38] at h
      refine J_iload_n (z := 1) dX3_worth_66 rfl rfl (q := 67) rfl ?_
      refine J_aload_n (z := 0) dX3_worth_67 rfl rfl (q := 68) rfl ?_
      obtain ⟨r40, er40, h⟩ := bindS h
      refine J_getR dX3_worth_68 lRX3_18 ha0 rfl (by decide) er40 (q := 71) rfl (fun fr40 => ?_)
      refine J_alen (t := 0) dX3_worth_71 fr40 (by decide) rfl (q := 72) rfl ?_
      refine J_icmp_gt (tgt := 86) dX3_worth_72 (by decide) (q := 75) rfl (fun c40 => ?_) (fun c40 => ?_)
      · rw [if_pos c40] at h
        refine J_iconst (x := 0) dX3_worth_86 (by decide) (q := 87) rfl ?_
        have h := Option.some.inj h
        subst h
        exact J_ireturn dX3_worth_87 rfl rfl rfl
      · rw [if_neg c40] at h
        refine J_aload_n (z := 0) dX3_worth_75 rfl rfl (q := 76) rfl ?_
        refine J_getR dX3_worth_76 lRX3_18 ha0 rfl (by decide) er40 (q := 79) rfl (fun _ => ?_)
        refine J_iload_n (z := 1) dX3_worth_79 rfl rfl (q := 80) rfl ?_
        refine J_iconst (x := 1) dX3_worth_80 (by decide) (q := 81) rfl ?_
        refine J_isub dX3_worth_81  (q := 82) rfl ?_
        obtain ⟨g42, h⟩ := iteS h
        refine J_iald dX3_worth_82 fr40 (ixB_ok g42) (q := 83) rfl ?_
        refine J_goto (tgt := 87) dX3_worth_83 (by decide) ?_
        have h := Option.some.inj h
        subst h
        exact J_ireturn dX3_worth_87 rfl rfl rfl
  · intro vo38 so38 qo38
    rw [qo38] at h
    try dsimp only [Sum.elim_inl, Sum.elim_inr] at h
    have h := Option.some.inj h
    subst h
    rfl

def fX8_meltBy_b143 (a7 : Int32) (σ : Mm) : Option (Int32 × Mm) :=
  some ((maxI 0 (minI 9 a7)), σ)
set_option maxRecDepth 20000 in
set_option maxHeartbeats 2000000 in
theorem tX8_meltBy_b143 {X : XS} {n : Nat} {σ : Mm} {a7 : Int32} {res : Int32 × Mm} (h : fX8_meltBy_b143 a7 σ = some res) : J X mX8_meltBy 3 0 0 (n, some (.int res.1), res.2) 143 [(7, .int a7)] [] n σ := by
  unfold fX8_meltBy_b143 at h
  refine J_iconst (x := 0) dX8_meltBy_143 (by decide) (q := 144) rfl ?_
  refine J_bipush (x := 9) dX8_meltBy_144 (by decide) (q := 146) rfl ?_
  refine J_iload (z := 0) dX8_meltBy_146 rfl (q := 148) rfl ?_
  refine J_mmin dX8_meltBy_148 pRX8_64 q_static_mmin q_init_math q_code_mmin (Nat.le_of_ble_eq_true rfl) (Nat.le_of_ble_eq_true rfl) (q := 151) rfl ?_
  refine J_mmax dX8_meltBy_151 pRX8_69 q_static_mmax q_init_math q_code_mmax (Nat.le_of_ble_eq_true rfl) (Nat.le_of_ble_eq_true rfl) (q := 154) rfl ?_
  have h := Option.some.inj h
  subst h
  exact J_ireturn dX8_meltBy_154 rfl rfl rfl

def fX8_meltBy (a0 : Nat) (a1 : Nat) (a2 : Int32) (a3 : Int32) (a4 : Int32) (a5 : Int32) (σ : Mm) : Option (Int32 × Mm) :=
  (gR σ a0 0).bind fun r1 => (fX1_pageCell r1 a3 σ).bind fun vk2 => (fX1_steps r1 a4 vk2 σ).bind fun vk3 => if 1 < vk3 then some (0, σ) else (fX1_hasPage r1 a3 σ).bind fun vk5 => if vk5 = 0 then some (0, σ) else (fX1_breath r1 a2 σ).bind fun vk7 => match gR σ a0 2 with | none => fX8_meltBy_b143 (((vk7 - ((gI σ a1 5) / 20)) + 1) - vk3) σ | some r8 => (gR σ a0 1).bind fun r9 => (fX1_breath r1 a2 σ).bind fun vk10 => if ixB 0 (ln r9) = true then if ixB 1 (ln r9) = true then (gR σ a1 0).bind fun r13 => if ixB a3 (ln r13) = true then if ixB 2 (ln r9) = true then if ixB 3 (ln r9) = true then if ixB 4 (ln r9) = true then if ixB 5 (ln r9) = true then bnd2 (fX3_worth r8 r9 (sI (sI (sI (sI (sI (sI σ r9 (Int32.toNatClampNeg 0) vk10) r9 (Int32.toNatClampNeg 1) (gI (sI σ r9 (Int32.toNatClampNeg 0) vk10) a1 5)) r9 (Int32.toNatClampNeg 2) (gI (sI (sI σ r9 (Int32.toNatClampNeg 0) vk10) r9 (Int32.toNatClampNeg 1) (gI (sI σ r9 (Int32.toNatClampNeg 0) vk10) a1 5)) r13 (Int32.toNatClampNeg a3))) r9 (Int32.toNatClampNeg 3) vk3) r9 (Int32.toNatClampNeg 4) a5) r9 (Int32.toNatClampNeg 5) (gI (sI (sI (sI (sI (sI σ r9 (Int32.toNatClampNeg 0) vk10) r9 (Int32.toNatClampNeg 1) (gI (sI σ r9 (Int32.toNatClampNeg 0) vk10) a1 5)) r9 (Int32.toNatClampNeg 2) (gI (sI (sI σ r9 (Int32.toNatClampNeg 0) vk10) r9 (Int32.toNatClampNeg 1) (gI (sI σ r9 (Int32.toNatClampNeg 0) vk10) a1 5)) r13 (Int32.toNatClampNeg a3))) r9 (Int32.toNatClampNeg 3) vk3) r9 (Int32.toNatClampNeg 4) a5) a1 6))) fun vk19 sk19 => fX8_meltBy_b143 vk19 sk19 else none else none else none else none else none else none else none
set_option maxRecDepth 20000 in
set_option maxHeartbeats 2000000 in
theorem tX8_meltBy {X : XS} {n : Nat} {σ : Mm} {a0 : Nat} {a1 : Nat} {a2 : Int32} {a3 : Int32} {a4 : Int32} {a5 : Int32} (ha0 : RT n a0 108) (ha1 : RT n a1 106) {res : Int32 × Mm} (h : fX8_meltBy a0 a1 a2 a3 a4 a5 σ = some res) : MT X yX8_meltBy mX8_meltBy 3 0 0 [.ref a0, .ref a1, .int a2, .int a3, .int a4, .int a5] n σ (n, some (.int res.1), res.2) := by
  unfold fX8_meltBy at h
  refine MT_of (by decide +kernel) rfl (fun h => by cases h) (Nat.le_of_ble_eq_true rfl) ?_
  show J X mX8_meltBy 3 0 0 (n, some (.int res.1), res.2) 0 [(0, .ref a0), (1, .ref a1), (2, .int a2), (3, .int a3), (4, .int a4), (5, .int a5)] [] n σ
  refine J_aload_n (z := 0) dX8_meltBy_0 rfl rfl (q := 1) rfl ?_
  obtain ⟨r1, er1, h⟩ := bindS h
  refine J_getR dX8_meltBy_1 lRX8_15 ha0 rfl (by decide) er1 (q := 4) rfl (fun fr1 => ?_)
  refine J_iload (z := 4) dX8_meltBy_4 rfl (q := 6) rfl ?_
  refine J_aload_n (z := 0) dX8_meltBy_6 rfl rfl (q := 7) rfl ?_
  refine J_getR dX8_meltBy_7 lRX8_15 ha0 rfl (by decide) er1 (q := 10) rfl (fun _ => ?_)
  refine J_iload_n (z := 3) dX8_meltBy_10 rfl rfl (q := 11) rfl ?_
  obtain ⟨vk2, hk2, h⟩ := bindS h
  refine J_cVi (as := [.int a3]) dX8_meltBy_11 mRX8_30 fr1 (tX1_pageCell fr1 hk2) rfl (Nat.le_of_ble_eq_true rfl) (Nat.le_of_ble_eq_true rfl) (Nat.le_of_ble_eq_true rfl) (q := 14) rfl ?_
  intro bk2
  obtain ⟨vk3, hk3, h⟩ := bindS h
  refine J_cVi (as := [.int a4, .int vk2]) dX8_meltBy_14 mRX8_34 fr1 (tX1_steps fr1 hk3) rfl (Nat.le_of_ble_eq_true rfl) (Nat.le_of_ble_eq_true rfl) (Nat.le_of_ble_eq_true rfl) (q := 17) rfl ?_
  intro bk3
  refine J_istore (lv' := [(6, .int vk3), (0, .ref a0), (1, .ref a1), (2, .int a2), (3, .int a3), (4, .int a4), (5, .int a5)]) dX8_meltBy_17 (by decide) rfl (q := 19) rfl ?_
  refine J_iload (z := 0) dX8_meltBy_19 rfl (q := 21) rfl ?_
  refine J_iconst (x := 1) dX8_meltBy_21 (by decide) (q := 22) rfl ?_
  refine J_icmp_gt (tgt := 36) dX8_meltBy_22 (by decide) (q := 25) rfl (fun c3 => ?_) (fun c3 => ?_)
  · rw [if_pos c3] at h
    refine J_iconst (x := 0) dX8_meltBy_36 (by decide) (q := 37) rfl ?_
    have h := Option.some.inj h
    subst h
    exact J_ireturn dX8_meltBy_37 rfl rfl rfl
  · rw [if_neg c3] at h
    refine J_aload_n (z := 1) dX8_meltBy_25 rfl rfl (q := 26) rfl ?_
    refine J_getR dX8_meltBy_26 lRX8_15 ha0 rfl (by decide) er1 (q := 29) rfl (fun _ => ?_)
    refine J_iload_n (z := 4) dX8_meltBy_29 rfl rfl (q := 30) rfl ?_
    obtain ⟨vk5, hk5, h⟩ := bindS h
    refine J_cVi (as := [.int a3]) dX8_meltBy_30 mRX8_38 fr1 (tX1_hasPage fr1 hk5) rfl (Nat.le_of_ble_eq_true rfl) (Nat.le_of_ble_eq_true rfl) (Nat.le_of_ble_eq_true rfl) (q := 33) rfl ?_
    intro bk5
    refine J_if_ne (tgt := 38) dX8_meltBy_33 (by decide) (q := 36) rfl (fun c5 => ?_) (fun c5 => ?_)
    · rw [if_neg c5] at h
      refine J_aload_n (z := 1) dX8_meltBy_38 rfl rfl (q := 39) rfl ?_
      refine J_getR dX8_meltBy_39 lRX8_15 ha0 rfl (by decide) er1 (q := 42) rfl (fun _ => ?_)
      refine J_iload_n (z := 3) dX8_meltBy_42 rfl rfl (q := 43) rfl ?_
      obtain ⟨vk7, hk7, h⟩ := bindS h
      refine J_cVi (as := [.int a2]) dX8_meltBy_43 mRX8_42 fr1 (tX1_breath fr1 hk7) rfl (Nat.le_of_ble_eq_true rfl) (Nat.le_of_ble_eq_true rfl) (Nat.le_of_ble_eq_true rfl) (q := 46) rfl ?_
      intro bk7
      refine J_aload_n (z := 2) dX8_meltBy_46 rfl rfl (q := 47) rfl ?_
      refine J_getI dX8_meltBy_47 lRX8_45 ha1 rfl (q := 50) rfl ?_
      refine J_bipush (x := 20) dX8_meltBy_50 (by decide) (q := 52) rfl ?_
      refine J_idiv dX8_meltBy_52 (by decide) (q := 53) rfl ?_
      refine J_isub dX8_meltBy_53  (q := 54) rfl ?_
      refine J_iconst (x := 1) dX8_meltBy_54 (by decide) (q := 55) rfl ?_
      refine J_iadd dX8_meltBy_55  (q := 56) rfl ?_
      refine J_iload (z := 0) dX8_meltBy_56 rfl (q := 58) rfl ?_
      refine J_isub dX8_meltBy_58  (q := 59) rfl ?_
      refine J_istore (lv' := [(7, .int (((vk7 - ((gI σ a1 5) / 20)) + 1) - vk3)), (6, .int vk3), (0, .ref a0), (1, .ref a1), (2, .int a2), (3, .int a3), (4, .int a4), (5, .int a5)]) dX8_meltBy_59 (by decide) rfl (q := 61) rfl ?_
      refine J_aload_n (z := 2) dX8_meltBy_61 rfl rfl (q := 62) rfl ?_
      cases er8 : gR σ a0 2 with
      | none =>
        rw [er8] at h
        refine J_getN dX8_meltBy_62 lRX8_48 ha0 rfl (by decide) er8 (q := 65) rfl ?_
        refine J_ifnull_n (tgt := 143) dX8_meltBy_65 (by decide) ?_
        refine J_pick [0] rfl ?_
        exact tX8_meltBy_b143  h
      | some r8 =>
        rw [er8] at h
        refine J_getR dX8_meltBy_62 lRX8_48 ha0 rfl (by decide) er8 (q := 65) rfl (fun fr8 => ?_)
        refine J_ifnull_r dX8_meltBy_65 (q := 68) rfl ?_
        refine J_aload_n (z := 2) dX8_meltBy_68 rfl rfl (q := 69) rfl ?_
        obtain ⟨r9, er9, h⟩ := bindS h
        refine J_getR dX8_meltBy_69 lRX8_9 ha0 rfl (by decide) er9 (q := 72) rfl (fun fr9 => ?_)
        refine J_iconst (x := 0) dX8_meltBy_72 (by decide) (q := 73) rfl ?_
        refine J_aload_n (z := 2) dX8_meltBy_73 rfl rfl (q := 74) rfl ?_
        refine J_getR dX8_meltBy_74 lRX8_15 ha0 rfl (by decide) er1 (q := 77) rfl (fun _ => ?_)
        refine J_iload_n (z := 4) dX8_meltBy_77 rfl rfl (q := 78) rfl ?_
        obtain ⟨vk10, hk10, h⟩ := bindS h
        refine J_cVi (as := [.int a2]) dX8_meltBy_78 mRX8_42 fr1 (tX1_breath fr1 hk10) rfl (Nat.le_of_ble_eq_true rfl) (Nat.le_of_ble_eq_true rfl) (Nat.le_of_ble_eq_true rfl) (q := 81) rfl ?_
        intro bk10
        obtain ⟨g11, h⟩ := iteS h
        refine J_iast dX8_meltBy_81 fr9 (ixB_ok g11) (q := 82) rfl ?_
        refine J_aload_n (z := 2) dX8_meltBy_82 rfl rfl (q := 83) rfl ?_
        refine J_getR dX8_meltBy_83 lRX8_9 ha0 rfl (by decide) er9 (q := 86) rfl (fun _ => ?_)
        refine J_iconst (x := 1) dX8_meltBy_86 (by decide) (q := 87) rfl ?_
        refine J_aload_n (z := 3) dX8_meltBy_87 rfl rfl (q := 88) rfl ?_
        refine J_getI dX8_meltBy_88 lRX8_45 ha1 rfl (q := 91) rfl ?_
        obtain ⟨g12, h⟩ := iteS h
        refine J_iast dX8_meltBy_91 fr9 (ixB_ok g12) (q := 92) rfl ?_
        refine J_aload_n (z := 2) dX8_meltBy_92 rfl rfl (q := 93) rfl ?_
        refine J_getR dX8_meltBy_93 lRX8_9 ha0 rfl (by decide) er9 (q := 96) rfl (fun _ => ?_)
        refine J_iconst (x := 2) dX8_meltBy_96 (by decide) (q := 97) rfl ?_
        refine J_aload_n (z := 3) dX8_meltBy_97 rfl rfl (q := 98) rfl ?_
        obtain ⟨r13, er13, h⟩ := bindS h
        refine J_getR dX8_meltBy_98 lRX8_52 ha1 rfl (by decide) er13 (q := 101) rfl (fun fr13 => ?_)
        refine J_iload_n (z := 5) dX8_meltBy_101 rfl rfl (q := 102) rfl ?_
        obtain ⟨g14, h⟩ := iteS h
        refine J_iald dX8_meltBy_102 fr13 (ixB_ok g14) (q := 103) rfl ?_
        obtain ⟨g15, h⟩ := iteS h
        refine J_iast dX8_meltBy_103 fr9 (ixB_ok g15) (q := 104) rfl ?_
        refine J_aload_n (z := 2) dX8_meltBy_104 rfl rfl (q := 105) rfl ?_
        refine J_getR dX8_meltBy_105 lRX8_9 ha0 rfl (by decide) er9 (q := 108) rfl (fun _ => ?_)
        refine J_iconst (x := 3) dX8_meltBy_108 (by decide) (q := 109) rfl ?_
        refine J_iload (z := 1) dX8_meltBy_109 rfl (q := 111) rfl ?_
        obtain ⟨g16, h⟩ := iteS h
        refine J_iast dX8_meltBy_111 fr9 (ixB_ok g16) (q := 112) rfl ?_
        refine J_aload_n (z := 2) dX8_meltBy_112 rfl rfl (q := 113) rfl ?_
        refine J_getR dX8_meltBy_113 lRX8_9 ha0 rfl (by decide) er9 (q := 116) rfl (fun _ => ?_)
        refine J_iconst (x := 4) dX8_meltBy_116 (by decide) (q := 117) rfl ?_
        refine J_iload (z := 7) dX8_meltBy_117 rfl (q := 119) rfl ?_
        obtain ⟨g17, h⟩ := iteS h
        refine J_iast dX8_meltBy_119 fr9 (ixB_ok g17) (q := 120) rfl ?_
        refine J_aload_n (z := 2) dX8_meltBy_120 rfl rfl (q := 121) rfl ?_
        refine J_getR dX8_meltBy_121 lRX8_9 ha0 rfl (by decide) er9 (q := 124) rfl (fun _ => ?_)
        refine J_iconst (x := 5) dX8_meltBy_124 (by decide) (q := 125) rfl ?_
        refine J_aload_n (z := 3) dX8_meltBy_125 rfl rfl (q := 126) rfl ?_
        refine J_getI dX8_meltBy_126 lRX8_55 ha1 rfl (q := 129) rfl ?_
        obtain ⟨g18, h⟩ := iteS h
        refine J_iast dX8_meltBy_129 fr9 (ixB_ok g18) (q := 130) rfl ?_
        refine J_aload_n (z := 2) dX8_meltBy_130 rfl rfl (q := 131) rfl ?_
        refine J_getR dX8_meltBy_131 lRX8_48 ha0 rfl (by decide) er8 (q := 134) rfl (fun _ => ?_)
        refine J_aload_n (z := 2) dX8_meltBy_134 rfl rfl (q := 135) rfl ?_
        refine J_getR dX8_meltBy_135 lRX8_9 ha0 rfl (by decide) er9 (q := 138) rfl (fun _ => ?_)
        obtain ⟨vk19, sk19, hk19, h⟩ := bnd2S h
        refine J_cVi (as := [.ref r9]) dX8_meltBy_138 mRX8_58 fr8 (tX3_worth fr8 fr9 hk19) rfl (Nat.le_of_ble_eq_true rfl) (Nat.le_of_ble_eq_true rfl) (Nat.le_of_ble_eq_true rfl) (q := 141) rfl ?_
        intro bk19
        refine J_istore (lv' := [(7, .int vk19), (6, .int vk3), (0, .ref a0), (1, .ref a1), (2, .int a2), (3, .int a3), (4, .int a4), (5, .int a5)]) dX8_meltBy_141 (by decide) rfl (q := 143) rfl ?_
        refine J_pick [0] rfl ?_
        exact tX8_meltBy_b143  h
    · rw [if_pos c5] at h
      refine J_iconst (x := 0) dX8_meltBy_36 (by decide) (q := 37) rfl ?_
      have h := Option.some.inj h
      subst h
      exact J_ireturn dX8_meltBy_37 rfl rfl rfl

