abbrev MS : Type := (Nat → Int32) × (Nat → Nat → Int32) × (Nat → Int64)
abbrev XS : Type := (Nat → Int32) × (Nat → Nat → Int32) × (Nat → Int64) × Nat × (Nat → Option Nat) × Option Nat × (Nat → (Nat → Int32) × (Nat → Nat → Int32))
def sI (σ : MS) (j : Nat) (v : Int32) : MS := (va_up σ.1 j v, σ.2)
def sA (σ : MS) (j : Nat) (f : Nat → Int32) : MS := (σ.1, va_up σ.2.1 j f, σ.2.2)
def sJ (σ : MS) (f : Nat → Int64) : MS := (σ.1, σ.2.1, f)
def xI (τ : XS) (j : Nat) (v : Int32) : XS := (va_up τ.1 j v, τ.2)
def xA (τ : XS) (j : Nat) (f : Nat → Int32) : XS := (τ.1, va_up τ.2.1 j f, τ.2.2)
def xJ (τ : XS) (f : Nat → Int64) : XS := (τ.1, τ.2.1, f, τ.2.2.2)
def xR (τ : XS) (f : Nat → Option Nat) : XS := (τ.1, τ.2.1, τ.2.2.1, τ.2.2.2.1, f, τ.2.2.2.2.2)
def xP (τ : XS) (o : Option Nat) : XS := (τ.1, τ.2.1, τ.2.2.1, τ.2.2.2.1, τ.2.2.2.2.1, o, τ.2.2.2.2.2.2)
def xT (τ : XS) (a : Nat) (q : (Nat → Int32) × (Nat → Nat → Int32)) : XS := (τ.1, τ.2.1, τ.2.2.1, τ.2.2.2.1, τ.2.2.2.2.1, τ.2.2.2.2.2.1, va_up τ.2.2.2.2.2.2 a q)
def fsX11 (ad : Nat → Nat) (σ : MS) : List Value := [.int (σ.1 0), .int (σ.1 1), .ref (ad 1), .ref (ad 2), .ref (ad 3), .ref (ad 4), .int (σ.1 6), .int (σ.1 7), .ref (ad 5), .ref (ad 6), .ref (ad 7), .ref (ad 8), .ref (ad 9), .int (σ.1 13), .ref (ad 10), .int (σ.1 15), .int (σ.1 16), .ref (ad 11), .ref (ad 12), .ref (ad 13), .ref (ad 14), .ref (ad 15), .ref (ad 16), .ref (ad 17), .ref (ad 18), .ref (ad 19), .int (σ.1 26), .int (σ.1 27), .ref (ad 20), .ref (ad 21), .ref (ad 22), .ref (ad 23), .ref (ad 24), .ref (ad 25), .int (σ.1 34), .int (σ.1 35), .ref (ad 26), .ref (ad 27), .ref (ad 28), .int (σ.1 39), .ref (ad 29), .ref (ad 30), .ref (ad 31), .ref (ad 32), .ref (ad 33), .int (σ.1 45), .int (σ.1 46), .int (σ.1 47), .int (σ.1 48), .ref (ad 34), .int (σ.1 50), .ref (ad 35)]
def fsX10 (ad : Nat → Nat) (τ : XS) : List Value := [.ref (ad 37), .ref (ad 49), .ref (ad 54), .ref (ad 57), .ref (ad 62), .ref (ad 68), .ref (ad 70), .ref (ad 76), .ref (ad 78)]
def fsX1 (ad : Nat → Nat) (τ : XS) : List Value := [.ref (ad 38), .ref (ad 39), .ref (ad 40), .ref (ad 41), .int (τ.1 104), .int (τ.1 105), .int (τ.1 106), .ref (ad 42), .ref (ad 43), .ref (ad 44), .ref (ad 45), .ref (ad 46), .ref (ad 47), .int (τ.1 113), .ref (ad 48), .int (τ.1 115)]
def fsX4 (ad : Nat → Nat) (τ : XS) : List Value := [.ref (ad 37), .ref (ad 50), .ref (ad 51), .ref (ad 52), .ref (ad 53)]
def fsX7 (ad : Nat → Nat) (τ : XS) : List Value := [.ref (ad 55), .int (τ.1 701), .int (τ.1 702), .ref (ad 56), .int (τ.1 704)]
def fsX3 (ad : Nat → Nat) (τ : XS) : List Value := [.ref (ad 37), .ref (ad 58), .int (τ.1 302), .ref (ad 59), va_rf (τ.2.2.2.2.2.1.map (fun a => ad (80 + 7 * a))), .ref (ad 60), .ref (ad 61), .int (τ.1 307), .int (τ.1 308), .int (τ.1 309)]
def fsX5 (ad : Nat → Nat) (τ : XS) : List Value := [.int (τ.1 500), .ref (ad 63), .ref (ad 64), .ref (ad 65), .ref (ad 66), .ref (ad 67)]
def fsX6 (ad : Nat → Nat) (τ : XS) : List Value := [.ref (ad 69), .int (τ.1 601)]
def fsX9 (ad : Nat → Nat) (τ : XS) : List Value := [.ref (ad 37), .int (τ.1 901), .ref (ad 71), .ref (ad 72), .ref (ad 73), .int (τ.1 905), .ref (ad 74), .ref (ad 75)]
def fsX2 (ad : Nat → Nat) (τ : XS) : List Value := [.ref (ad 37), .ref (ad 49), .ref (ad 57), .ref (ad 62), .ref (ad 70), .int (τ.1 205), .ref (ad 77), .int (τ.1 207)]
def fsX8 (ad : Nat → Nat) (τ : XS) : List Value := [.ref (ad 79)]
def cM (z : ZZ) (ad : Nat → Nat) (σ : MS) : va_W := [(ad 0, .inr (11, fsX11 ad σ)), (ad 1, .inl (z.2.2.1 0, 24, .inl (σ.2.1 2))), (ad 2, .inl (z.2.2.1 0, 24, .inl (σ.2.1 3))), (ad 3, .inl (z.2.2.1 0, 24, .inl (σ.2.1 4))), (ad 4, .inl (z.2.2.1 0, 24, .inl (σ.2.1 5))), (ad 5, .inl (z.2.2.1 0, 200, .inl (σ.2.1 8))), (ad 6, .inl (z.2.2.1 0, 200, .inl (σ.2.1 9))), (ad 7, .inl (z.2.2.1 0, 200, .inl (σ.2.1 10))), (ad 8, .inl (z.2.2.1 0, 200, .inl (σ.2.1 11))), (ad 9, .inl (z.2.2.1 0, 200, .inl (σ.2.1 12))), (ad 10, .inl (z.2.2.1 0, 200, .inl (σ.2.1 14))), (ad 11, .inl (z.2.2.1 0, 9, .inl (σ.2.1 17))), (ad 12, .inl (z.2.2.1 0, 9, .inl (σ.2.1 18))), (ad 13, .inl (z.2.2.1 1, 9, .inl (σ.2.1 19))), (ad 14, .inl (z.2.2.1 0, 72, .inl (σ.2.1 20))), (ad 15, .inl (z.2.2.1 0, 72, .inl (σ.2.1 21))), (ad 16, .inl (z.2.2.1 0, 1800, .inl (σ.2.1 22))), (ad 17, .inl (z.2.2.1 0, 72, .inl (σ.2.1 23))), (ad 18, .inl (z.2.2.1 0, 72, .inl (σ.2.1 24))), (ad 19, .inl (z.2.2.1 0, 9, .inl (σ.2.1 25))), (ad 20, .inl (z.2.2.1 0, 12, .inl (σ.2.1 28))), (ad 21, .inl (z.2.2.1 0, 12, .inl (σ.2.1 29))), (ad 22, .inl (z.2.2.1 0, 12, .inl (σ.2.1 30))), (ad 23, .inl (z.2.2.1 0, 12, .inl (σ.2.1 31))), (ad 24, .inl (z.2.2.1 0, 12, .inl (σ.2.1 32))), (ad 25, .inl (z.2.2.1 0, 100, .inl (σ.2.1 33))), (ad 26, .inl (z.2.2.1 0, 4, .inl (σ.2.1 36))), (ad 27, .inl (z.2.2.1 0, 32, .inl (σ.2.1 37))), (ad 28, .inl (z.2.2.1 0, 32, .inl (σ.2.1 38))), (ad 29, .inl (z.2.2.1 0, 4, .inl (σ.2.1 40))), (ad 30, .inl (z.2.2.1 0, 4, .inl (σ.2.1 41))), (ad 31, .inl (z.2.2.1 2, 73, .inr (.inl (σ.2.2)))), (ad 32, .inl (z.2.2.1 1, 200, .inl (σ.2.1 43))), (ad 33, .inl (z.2.2.1 0, 24, .inl (σ.2.1 44))), (ad 34, .inl (z.2.2.1 0, 5, .inl (σ.2.1 49))), (ad 35, .inl (z.2.2.1 0, 4, .inl (σ.2.1 51)))]
def cX (z : ZZ) (ad : Nat → Nat) (τ : XS) : va_W := [(ad 36, .inr (10, fsX10 ad τ)), (ad 37, .inr (1, fsX1 ad τ)), (ad 38, .inl (z.2.2.1 0, 24, .inl (τ.2.1 100))), (ad 39, .inl (z.2.2.1 0, 24, .inl (τ.2.1 101))), (ad 40, .inl (z.2.2.1 0, 24, .inl (τ.2.1 102))), (ad 41, .inl (z.2.2.1 0, 24, .inl (τ.2.1 103))), (ad 42, .inl (z.2.2.1 0, 200, .inl (τ.2.1 107))), (ad 43, .inl (z.2.2.1 0, 200, .inl (τ.2.1 108))), (ad 44, .inl (z.2.2.1 0, 200, .inl (τ.2.1 109))), (ad 45, .inl (z.2.2.1 0, 200, .inl (τ.2.1 110))), (ad 46, .inl (z.2.2.1 0, 200, .inl (τ.2.1 111))), (ad 47, .inl (z.2.2.1 0, 200, .inl (τ.2.1 112))), (ad 48, .inl (z.2.2.1 0, 200, .inl (τ.2.1 114))), (ad 49, .inr (4, fsX4 ad τ)), (ad 50, .inl (z.2.2.1 0, 24, .inl (τ.2.1 401))), (ad 51, .inl (z.2.2.1 0, 24, .inl (τ.2.1 402))), (ad 52, .inl (z.2.2.1 0, 24, .inl (τ.2.1 403))), (ad 53, .inl (z.2.2.1 0, 400, .inl (τ.2.1 404))), (ad 54, .inr (7, fsX7 ad τ)), (ad 55, .inl (z.2.2.1 0, 200, .inl (τ.2.1 700))), (ad 56, .inl (z.2.2.1 0, 200, .inl (τ.2.1 703))), (ad 57, .inr (3, fsX3 ad τ)), (ad 58, .inl (z.2.2.1 3, 9, .inr (.inr (.inr (.inr (fun i => (τ.2.2.2.2.1 i).map (fun a => ad (80 + 7 * a)))))))), (ad 59, .inl (z.2.2.1 0, 9, .inl (τ.2.1 303))), (ad 60, .inl (z.2.2.1 0, 5, .inl (τ.2.1 305))), (ad 61, .inl (z.2.2.1 0, 200, .inl (τ.2.1 306))), (ad 62, .inr (5, fsX5 ad τ)), (ad 63, .inl (z.2.2.1 0, 12, .inl (τ.2.1 501))), (ad 64, .inl (z.2.2.1 0, 12, .inl (τ.2.1 502))), (ad 65, .inl (z.2.2.1 0, 12, .inl (τ.2.1 503))), (ad 66, .inl (z.2.2.1 0, 12, .inl (τ.2.1 504))), (ad 67, .inl (z.2.2.1 0, 12, .inl (τ.2.1 505))), (ad 68, .inr (6, fsX6 ad τ)), (ad 69, .inl (z.2.2.1 0, 100, .inl (τ.2.1 600))), (ad 70, .inr (9, fsX9 ad τ)), (ad 71, .inl (z.2.2.1 0, 4, .inl (τ.2.1 902))), (ad 72, .inl (z.2.2.1 0, 32, .inl (τ.2.1 903))), (ad 73, .inl (z.2.2.1 0, 32, .inl (τ.2.1 904))), (ad 74, .inl (z.2.2.1 0, 4, .inl (τ.2.1 906))), (ad 75, .inl (z.2.2.1 0, 4, .inl (τ.2.1 907))), (ad 76, .inr (2, fsX2 ad τ)), (ad 77, .inl (z.2.2.1 1, 24, .inl (τ.2.1 206))), (ad 78, .inr (8, fsX8 ad τ)), (ad 79, .inl (z.2.2.1 2, 73, .inr (.inl (τ.2.2.1))))]
def fsX0 (ad : Nat → Nat) (i : Nat) (q : (Nat → Int32) × (Nat → Nat → Int32)) : List Value := [.int (q.1 0), .int (q.1 1), .int (q.1 2), .ref (ad (i + 1)), .ref (ad (i + 2)), .ref (ad (i + 3)), .ref (ad (i + 4)), .ref (ad (i + 5)), .ref (ad (i + 6)), .int (q.1 9)]
def cT (z : ZZ) (ad : Nat → Nat) (i : Nat) (q : (Nat → Int32) × (Nat → Nat → Int32)) : va_W := [(ad i, .inr (0, fsX0 ad i q)), (ad (i + 1), .inl (z.2.2.1 0, 8, .inl (q.2 3))), (ad (i + 2), .inl (z.2.2.1 0, 8, .inl (q.2 4))), (ad (i + 3), .inl (z.2.2.1 0, 8, .inl (q.2 5))), (ad (i + 4), .inl (z.2.2.1 0, 8, .inl (q.2 6))), (ad (i + 5), .inl (z.2.2.1 0, 8, .inl (q.2 7))), (ad (i + 6), .inl (z.2.2.1 0, 200, .inl (q.2 8)))]
def cA (z : ZZ) (ad : Nat → Nat) (τ : XS) : va_W := (List.range τ.2.2.2.1).flatMap (fun a => cT z ad (80 + 7 * a) (τ.2.2.2.2.2.2 a))
def ww (z : ZZ) (ad : Nat → Nat) (σ : MS) (τ : XS) : va_W := cM z ad σ ++ (cX z ad τ ++ cA z ad τ)
def wM (z : ZZ) (τ : XS) : (Nat → Nat) → MS → va_W := fun ad σ => ww z ad σ τ
def wX (z : ZZ) (σ : MS) : (Nat → Nat) → XS → va_W := fun ad τ => ww z ad σ τ
section ST
variable {z : ZZ} {ad : Nat → Nat} {σ : MS} {τ : XS}
theorem cl_0 : (wM z τ ad σ)[0]? = some (ad 0, .inr (11, fsX11 ad σ)) := rfl
theorem cl_1 : (wM z τ ad σ)[1]? = some (ad 1, .inl (z.2.2.1 0, 24, .inl (σ.2.1 2))) := rfl
theorem st_1 {f : Nat → Int32} : (wM z τ ad σ).set 1 (ad 1, .inl (z.2.2.1 0, 24, .inl f)) = wM z τ ad (sA σ 2 f) := rfl
theorem cl_2 : (wM z τ ad σ)[2]? = some (ad 2, .inl (z.2.2.1 0, 24, .inl (σ.2.1 3))) := rfl
theorem st_2 {f : Nat → Int32} : (wM z τ ad σ).set 2 (ad 2, .inl (z.2.2.1 0, 24, .inl f)) = wM z τ ad (sA σ 3 f) := rfl
theorem cl_3 : (wM z τ ad σ)[3]? = some (ad 3, .inl (z.2.2.1 0, 24, .inl (σ.2.1 4))) := rfl
theorem st_3 {f : Nat → Int32} : (wM z τ ad σ).set 3 (ad 3, .inl (z.2.2.1 0, 24, .inl f)) = wM z τ ad (sA σ 4 f) := rfl
theorem cl_4 : (wM z τ ad σ)[4]? = some (ad 4, .inl (z.2.2.1 0, 24, .inl (σ.2.1 5))) := rfl
theorem st_4 {f : Nat → Int32} : (wM z τ ad σ).set 4 (ad 4, .inl (z.2.2.1 0, 24, .inl f)) = wM z τ ad (sA σ 5 f) := rfl
theorem cl_5 : (wM z τ ad σ)[5]? = some (ad 5, .inl (z.2.2.1 0, 200, .inl (σ.2.1 8))) := rfl
theorem st_5 {f : Nat → Int32} : (wM z τ ad σ).set 5 (ad 5, .inl (z.2.2.1 0, 200, .inl f)) = wM z τ ad (sA σ 8 f) := rfl
theorem cl_6 : (wM z τ ad σ)[6]? = some (ad 6, .inl (z.2.2.1 0, 200, .inl (σ.2.1 9))) := rfl
theorem st_6 {f : Nat → Int32} : (wM z τ ad σ).set 6 (ad 6, .inl (z.2.2.1 0, 200, .inl f)) = wM z τ ad (sA σ 9 f) := rfl
theorem cl_7 : (wM z τ ad σ)[7]? = some (ad 7, .inl (z.2.2.1 0, 200, .inl (σ.2.1 10))) := rfl
theorem st_7 {f : Nat → Int32} : (wM z τ ad σ).set 7 (ad 7, .inl (z.2.2.1 0, 200, .inl f)) = wM z τ ad (sA σ 10 f) := rfl
theorem cl_8 : (wM z τ ad σ)[8]? = some (ad 8, .inl (z.2.2.1 0, 200, .inl (σ.2.1 11))) := rfl
theorem st_8 {f : Nat → Int32} : (wM z τ ad σ).set 8 (ad 8, .inl (z.2.2.1 0, 200, .inl f)) = wM z τ ad (sA σ 11 f) := rfl
theorem cl_9 : (wM z τ ad σ)[9]? = some (ad 9, .inl (z.2.2.1 0, 200, .inl (σ.2.1 12))) := rfl
theorem st_9 {f : Nat → Int32} : (wM z τ ad σ).set 9 (ad 9, .inl (z.2.2.1 0, 200, .inl f)) = wM z τ ad (sA σ 12 f) := rfl
theorem cl_10 : (wM z τ ad σ)[10]? = some (ad 10, .inl (z.2.2.1 0, 200, .inl (σ.2.1 14))) := rfl
theorem st_10 {f : Nat → Int32} : (wM z τ ad σ).set 10 (ad 10, .inl (z.2.2.1 0, 200, .inl f)) = wM z τ ad (sA σ 14 f) := rfl
theorem cl_11 : (wM z τ ad σ)[11]? = some (ad 11, .inl (z.2.2.1 0, 9, .inl (σ.2.1 17))) := rfl
theorem st_11 {f : Nat → Int32} : (wM z τ ad σ).set 11 (ad 11, .inl (z.2.2.1 0, 9, .inl f)) = wM z τ ad (sA σ 17 f) := rfl
theorem cl_12 : (wM z τ ad σ)[12]? = some (ad 12, .inl (z.2.2.1 0, 9, .inl (σ.2.1 18))) := rfl
theorem st_12 {f : Nat → Int32} : (wM z τ ad σ).set 12 (ad 12, .inl (z.2.2.1 0, 9, .inl f)) = wM z τ ad (sA σ 18 f) := rfl
theorem cl_13 : (wM z τ ad σ)[13]? = some (ad 13, .inl (z.2.2.1 1, 9, .inl (σ.2.1 19))) := rfl
theorem st_13 {f : Nat → Int32} : (wM z τ ad σ).set 13 (ad 13, .inl (z.2.2.1 1, 9, .inl f)) = wM z τ ad (sA σ 19 f) := rfl
theorem cl_14 : (wM z τ ad σ)[14]? = some (ad 14, .inl (z.2.2.1 0, 72, .inl (σ.2.1 20))) := rfl
theorem st_14 {f : Nat → Int32} : (wM z τ ad σ).set 14 (ad 14, .inl (z.2.2.1 0, 72, .inl f)) = wM z τ ad (sA σ 20 f) := rfl
theorem cl_15 : (wM z τ ad σ)[15]? = some (ad 15, .inl (z.2.2.1 0, 72, .inl (σ.2.1 21))) := rfl
theorem st_15 {f : Nat → Int32} : (wM z τ ad σ).set 15 (ad 15, .inl (z.2.2.1 0, 72, .inl f)) = wM z τ ad (sA σ 21 f) := rfl
theorem cl_16 : (wM z τ ad σ)[16]? = some (ad 16, .inl (z.2.2.1 0, 1800, .inl (σ.2.1 22))) := rfl
theorem st_16 {f : Nat → Int32} : (wM z τ ad σ).set 16 (ad 16, .inl (z.2.2.1 0, 1800, .inl f)) = wM z τ ad (sA σ 22 f) := rfl
theorem cl_17 : (wM z τ ad σ)[17]? = some (ad 17, .inl (z.2.2.1 0, 72, .inl (σ.2.1 23))) := rfl
theorem st_17 {f : Nat → Int32} : (wM z τ ad σ).set 17 (ad 17, .inl (z.2.2.1 0, 72, .inl f)) = wM z τ ad (sA σ 23 f) := rfl
theorem cl_18 : (wM z τ ad σ)[18]? = some (ad 18, .inl (z.2.2.1 0, 72, .inl (σ.2.1 24))) := rfl
theorem st_18 {f : Nat → Int32} : (wM z τ ad σ).set 18 (ad 18, .inl (z.2.2.1 0, 72, .inl f)) = wM z τ ad (sA σ 24 f) := rfl
theorem cl_19 : (wM z τ ad σ)[19]? = some (ad 19, .inl (z.2.2.1 0, 9, .inl (σ.2.1 25))) := rfl
theorem st_19 {f : Nat → Int32} : (wM z τ ad σ).set 19 (ad 19, .inl (z.2.2.1 0, 9, .inl f)) = wM z τ ad (sA σ 25 f) := rfl
theorem cl_20 : (wM z τ ad σ)[20]? = some (ad 20, .inl (z.2.2.1 0, 12, .inl (σ.2.1 28))) := rfl
theorem st_20 {f : Nat → Int32} : (wM z τ ad σ).set 20 (ad 20, .inl (z.2.2.1 0, 12, .inl f)) = wM z τ ad (sA σ 28 f) := rfl
theorem cl_21 : (wM z τ ad σ)[21]? = some (ad 21, .inl (z.2.2.1 0, 12, .inl (σ.2.1 29))) := rfl
theorem st_21 {f : Nat → Int32} : (wM z τ ad σ).set 21 (ad 21, .inl (z.2.2.1 0, 12, .inl f)) = wM z τ ad (sA σ 29 f) := rfl
theorem cl_22 : (wM z τ ad σ)[22]? = some (ad 22, .inl (z.2.2.1 0, 12, .inl (σ.2.1 30))) := rfl
theorem st_22 {f : Nat → Int32} : (wM z τ ad σ).set 22 (ad 22, .inl (z.2.2.1 0, 12, .inl f)) = wM z τ ad (sA σ 30 f) := rfl
theorem cl_23 : (wM z τ ad σ)[23]? = some (ad 23, .inl (z.2.2.1 0, 12, .inl (σ.2.1 31))) := rfl
theorem st_23 {f : Nat → Int32} : (wM z τ ad σ).set 23 (ad 23, .inl (z.2.2.1 0, 12, .inl f)) = wM z τ ad (sA σ 31 f) := rfl
theorem cl_24 : (wM z τ ad σ)[24]? = some (ad 24, .inl (z.2.2.1 0, 12, .inl (σ.2.1 32))) := rfl
theorem st_24 {f : Nat → Int32} : (wM z τ ad σ).set 24 (ad 24, .inl (z.2.2.1 0, 12, .inl f)) = wM z τ ad (sA σ 32 f) := rfl
theorem cl_25 : (wM z τ ad σ)[25]? = some (ad 25, .inl (z.2.2.1 0, 100, .inl (σ.2.1 33))) := rfl
theorem st_25 {f : Nat → Int32} : (wM z τ ad σ).set 25 (ad 25, .inl (z.2.2.1 0, 100, .inl f)) = wM z τ ad (sA σ 33 f) := rfl
theorem cl_26 : (wM z τ ad σ)[26]? = some (ad 26, .inl (z.2.2.1 0, 4, .inl (σ.2.1 36))) := rfl
theorem st_26 {f : Nat → Int32} : (wM z τ ad σ).set 26 (ad 26, .inl (z.2.2.1 0, 4, .inl f)) = wM z τ ad (sA σ 36 f) := rfl
theorem cl_27 : (wM z τ ad σ)[27]? = some (ad 27, .inl (z.2.2.1 0, 32, .inl (σ.2.1 37))) := rfl
theorem st_27 {f : Nat → Int32} : (wM z τ ad σ).set 27 (ad 27, .inl (z.2.2.1 0, 32, .inl f)) = wM z τ ad (sA σ 37 f) := rfl
theorem cl_28 : (wM z τ ad σ)[28]? = some (ad 28, .inl (z.2.2.1 0, 32, .inl (σ.2.1 38))) := rfl
theorem st_28 {f : Nat → Int32} : (wM z τ ad σ).set 28 (ad 28, .inl (z.2.2.1 0, 32, .inl f)) = wM z τ ad (sA σ 38 f) := rfl
theorem cl_29 : (wM z τ ad σ)[29]? = some (ad 29, .inl (z.2.2.1 0, 4, .inl (σ.2.1 40))) := rfl
theorem st_29 {f : Nat → Int32} : (wM z τ ad σ).set 29 (ad 29, .inl (z.2.2.1 0, 4, .inl f)) = wM z τ ad (sA σ 40 f) := rfl
theorem cl_30 : (wM z τ ad σ)[30]? = some (ad 30, .inl (z.2.2.1 0, 4, .inl (σ.2.1 41))) := rfl
theorem st_30 {f : Nat → Int32} : (wM z τ ad σ).set 30 (ad 30, .inl (z.2.2.1 0, 4, .inl f)) = wM z τ ad (sA σ 41 f) := rfl
theorem cl_31 : (wM z τ ad σ)[31]? = some (ad 31, .inl (z.2.2.1 2, 73, .inr (.inl (σ.2.2)))) := rfl
theorem st_31 {f : Nat → Int64} : (wM z τ ad σ).set 31 (ad 31, .inl (z.2.2.1 2, 73, .inr (.inl f))) = wM z τ ad (sJ σ f) := rfl
theorem cl_32 : (wM z τ ad σ)[32]? = some (ad 32, .inl (z.2.2.1 1, 200, .inl (σ.2.1 43))) := rfl
theorem st_32 {f : Nat → Int32} : (wM z τ ad σ).set 32 (ad 32, .inl (z.2.2.1 1, 200, .inl f)) = wM z τ ad (sA σ 43 f) := rfl
theorem cl_33 : (wM z τ ad σ)[33]? = some (ad 33, .inl (z.2.2.1 0, 24, .inl (σ.2.1 44))) := rfl
theorem st_33 {f : Nat → Int32} : (wM z τ ad σ).set 33 (ad 33, .inl (z.2.2.1 0, 24, .inl f)) = wM z τ ad (sA σ 44 f) := rfl
theorem cl_34 : (wM z τ ad σ)[34]? = some (ad 34, .inl (z.2.2.1 0, 5, .inl (σ.2.1 49))) := rfl
theorem st_34 {f : Nat → Int32} : (wM z τ ad σ).set 34 (ad 34, .inl (z.2.2.1 0, 5, .inl f)) = wM z τ ad (sA σ 49 f) := rfl
theorem cl_35 : (wM z τ ad σ)[35]? = some (ad 35, .inl (z.2.2.1 0, 4, .inl (σ.2.1 51))) := rfl
theorem st_35 {f : Nat → Int32} : (wM z τ ad σ).set 35 (ad 35, .inl (z.2.2.1 0, 4, .inl f)) = wM z τ ad (sA σ 51 f) := rfl
theorem cl_36 : (wX z σ ad τ)[36]? = some (ad 36, .inr (10, fsX10 ad τ)) := rfl
theorem cl_37 : (wX z σ ad τ)[37]? = some (ad 37, .inr (1, fsX1 ad τ)) := rfl
theorem cl_38 : (wX z σ ad τ)[38]? = some (ad 38, .inl (z.2.2.1 0, 24, .inl (τ.2.1 100))) := rfl
theorem st_38 {f : Nat → Int32} : (wX z σ ad τ).set 38 (ad 38, .inl (z.2.2.1 0, 24, .inl f)) = wX z σ ad (xA τ 100 f) := rfl
theorem cl_39 : (wX z σ ad τ)[39]? = some (ad 39, .inl (z.2.2.1 0, 24, .inl (τ.2.1 101))) := rfl
theorem st_39 {f : Nat → Int32} : (wX z σ ad τ).set 39 (ad 39, .inl (z.2.2.1 0, 24, .inl f)) = wX z σ ad (xA τ 101 f) := rfl
theorem cl_40 : (wX z σ ad τ)[40]? = some (ad 40, .inl (z.2.2.1 0, 24, .inl (τ.2.1 102))) := rfl
theorem st_40 {f : Nat → Int32} : (wX z σ ad τ).set 40 (ad 40, .inl (z.2.2.1 0, 24, .inl f)) = wX z σ ad (xA τ 102 f) := rfl
theorem cl_41 : (wX z σ ad τ)[41]? = some (ad 41, .inl (z.2.2.1 0, 24, .inl (τ.2.1 103))) := rfl
theorem st_41 {f : Nat → Int32} : (wX z σ ad τ).set 41 (ad 41, .inl (z.2.2.1 0, 24, .inl f)) = wX z σ ad (xA τ 103 f) := rfl
theorem cl_42 : (wX z σ ad τ)[42]? = some (ad 42, .inl (z.2.2.1 0, 200, .inl (τ.2.1 107))) := rfl
theorem st_42 {f : Nat → Int32} : (wX z σ ad τ).set 42 (ad 42, .inl (z.2.2.1 0, 200, .inl f)) = wX z σ ad (xA τ 107 f) := rfl
theorem cl_43 : (wX z σ ad τ)[43]? = some (ad 43, .inl (z.2.2.1 0, 200, .inl (τ.2.1 108))) := rfl
theorem st_43 {f : Nat → Int32} : (wX z σ ad τ).set 43 (ad 43, .inl (z.2.2.1 0, 200, .inl f)) = wX z σ ad (xA τ 108 f) := rfl
theorem cl_44 : (wX z σ ad τ)[44]? = some (ad 44, .inl (z.2.2.1 0, 200, .inl (τ.2.1 109))) := rfl
theorem st_44 {f : Nat → Int32} : (wX z σ ad τ).set 44 (ad 44, .inl (z.2.2.1 0, 200, .inl f)) = wX z σ ad (xA τ 109 f) := rfl
theorem cl_45 : (wX z σ ad τ)[45]? = some (ad 45, .inl (z.2.2.1 0, 200, .inl (τ.2.1 110))) := rfl
theorem st_45 {f : Nat → Int32} : (wX z σ ad τ).set 45 (ad 45, .inl (z.2.2.1 0, 200, .inl f)) = wX z σ ad (xA τ 110 f) := rfl
theorem cl_46 : (wX z σ ad τ)[46]? = some (ad 46, .inl (z.2.2.1 0, 200, .inl (τ.2.1 111))) := rfl
theorem st_46 {f : Nat → Int32} : (wX z σ ad τ).set 46 (ad 46, .inl (z.2.2.1 0, 200, .inl f)) = wX z σ ad (xA τ 111 f) := rfl
theorem cl_47 : (wX z σ ad τ)[47]? = some (ad 47, .inl (z.2.2.1 0, 200, .inl (τ.2.1 112))) := rfl
theorem st_47 {f : Nat → Int32} : (wX z σ ad τ).set 47 (ad 47, .inl (z.2.2.1 0, 200, .inl f)) = wX z σ ad (xA τ 112 f) := rfl
theorem cl_48 : (wX z σ ad τ)[48]? = some (ad 48, .inl (z.2.2.1 0, 200, .inl (τ.2.1 114))) := rfl
theorem st_48 {f : Nat → Int32} : (wX z σ ad τ).set 48 (ad 48, .inl (z.2.2.1 0, 200, .inl f)) = wX z σ ad (xA τ 114 f) := rfl
theorem cl_49 : (wX z σ ad τ)[49]? = some (ad 49, .inr (4, fsX4 ad τ)) := rfl
theorem cl_50 : (wX z σ ad τ)[50]? = some (ad 50, .inl (z.2.2.1 0, 24, .inl (τ.2.1 401))) := rfl
theorem st_50 {f : Nat → Int32} : (wX z σ ad τ).set 50 (ad 50, .inl (z.2.2.1 0, 24, .inl f)) = wX z σ ad (xA τ 401 f) := rfl
theorem cl_51 : (wX z σ ad τ)[51]? = some (ad 51, .inl (z.2.2.1 0, 24, .inl (τ.2.1 402))) := rfl
theorem st_51 {f : Nat → Int32} : (wX z σ ad τ).set 51 (ad 51, .inl (z.2.2.1 0, 24, .inl f)) = wX z σ ad (xA τ 402 f) := rfl
theorem cl_52 : (wX z σ ad τ)[52]? = some (ad 52, .inl (z.2.2.1 0, 24, .inl (τ.2.1 403))) := rfl
theorem st_52 {f : Nat → Int32} : (wX z σ ad τ).set 52 (ad 52, .inl (z.2.2.1 0, 24, .inl f)) = wX z σ ad (xA τ 403 f) := rfl
theorem cl_53 : (wX z σ ad τ)[53]? = some (ad 53, .inl (z.2.2.1 0, 400, .inl (τ.2.1 404))) := rfl
theorem st_53 {f : Nat → Int32} : (wX z σ ad τ).set 53 (ad 53, .inl (z.2.2.1 0, 400, .inl f)) = wX z σ ad (xA τ 404 f) := rfl
theorem cl_54 : (wX z σ ad τ)[54]? = some (ad 54, .inr (7, fsX7 ad τ)) := rfl
theorem cl_55 : (wX z σ ad τ)[55]? = some (ad 55, .inl (z.2.2.1 0, 200, .inl (τ.2.1 700))) := rfl
theorem st_55 {f : Nat → Int32} : (wX z σ ad τ).set 55 (ad 55, .inl (z.2.2.1 0, 200, .inl f)) = wX z σ ad (xA τ 700 f) := rfl
theorem cl_56 : (wX z σ ad τ)[56]? = some (ad 56, .inl (z.2.2.1 0, 200, .inl (τ.2.1 703))) := rfl
theorem st_56 {f : Nat → Int32} : (wX z σ ad τ).set 56 (ad 56, .inl (z.2.2.1 0, 200, .inl f)) = wX z σ ad (xA τ 703 f) := rfl
theorem cl_57 : (wX z σ ad τ)[57]? = some (ad 57, .inr (3, fsX3 ad τ)) := rfl
theorem cl_58 : (wX z σ ad τ)[58]? = some (ad 58, .inl (z.2.2.1 3, 9, .inr (.inr (.inr (.inr (fun i => (τ.2.2.2.2.1 i).map (fun a => ad (80 + 7 * a)))))))) := rfl
theorem cl_59 : (wX z σ ad τ)[59]? = some (ad 59, .inl (z.2.2.1 0, 9, .inl (τ.2.1 303))) := rfl
theorem st_59 {f : Nat → Int32} : (wX z σ ad τ).set 59 (ad 59, .inl (z.2.2.1 0, 9, .inl f)) = wX z σ ad (xA τ 303 f) := rfl
theorem cl_60 : (wX z σ ad τ)[60]? = some (ad 60, .inl (z.2.2.1 0, 5, .inl (τ.2.1 305))) := rfl
theorem st_60 {f : Nat → Int32} : (wX z σ ad τ).set 60 (ad 60, .inl (z.2.2.1 0, 5, .inl f)) = wX z σ ad (xA τ 305 f) := rfl
theorem cl_61 : (wX z σ ad τ)[61]? = some (ad 61, .inl (z.2.2.1 0, 200, .inl (τ.2.1 306))) := rfl
theorem st_61 {f : Nat → Int32} : (wX z σ ad τ).set 61 (ad 61, .inl (z.2.2.1 0, 200, .inl f)) = wX z σ ad (xA τ 306 f) := rfl
theorem cl_62 : (wX z σ ad τ)[62]? = some (ad 62, .inr (5, fsX5 ad τ)) := rfl
theorem cl_63 : (wX z σ ad τ)[63]? = some (ad 63, .inl (z.2.2.1 0, 12, .inl (τ.2.1 501))) := rfl
theorem st_63 {f : Nat → Int32} : (wX z σ ad τ).set 63 (ad 63, .inl (z.2.2.1 0, 12, .inl f)) = wX z σ ad (xA τ 501 f) := rfl
theorem cl_64 : (wX z σ ad τ)[64]? = some (ad 64, .inl (z.2.2.1 0, 12, .inl (τ.2.1 502))) := rfl
theorem st_64 {f : Nat → Int32} : (wX z σ ad τ).set 64 (ad 64, .inl (z.2.2.1 0, 12, .inl f)) = wX z σ ad (xA τ 502 f) := rfl
theorem cl_65 : (wX z σ ad τ)[65]? = some (ad 65, .inl (z.2.2.1 0, 12, .inl (τ.2.1 503))) := rfl
theorem st_65 {f : Nat → Int32} : (wX z σ ad τ).set 65 (ad 65, .inl (z.2.2.1 0, 12, .inl f)) = wX z σ ad (xA τ 503 f) := rfl
theorem cl_66 : (wX z σ ad τ)[66]? = some (ad 66, .inl (z.2.2.1 0, 12, .inl (τ.2.1 504))) := rfl
theorem st_66 {f : Nat → Int32} : (wX z σ ad τ).set 66 (ad 66, .inl (z.2.2.1 0, 12, .inl f)) = wX z σ ad (xA τ 504 f) := rfl
theorem cl_67 : (wX z σ ad τ)[67]? = some (ad 67, .inl (z.2.2.1 0, 12, .inl (τ.2.1 505))) := rfl
theorem st_67 {f : Nat → Int32} : (wX z σ ad τ).set 67 (ad 67, .inl (z.2.2.1 0, 12, .inl f)) = wX z σ ad (xA τ 505 f) := rfl
theorem cl_68 : (wX z σ ad τ)[68]? = some (ad 68, .inr (6, fsX6 ad τ)) := rfl
theorem cl_69 : (wX z σ ad τ)[69]? = some (ad 69, .inl (z.2.2.1 0, 100, .inl (τ.2.1 600))) := rfl
theorem st_69 {f : Nat → Int32} : (wX z σ ad τ).set 69 (ad 69, .inl (z.2.2.1 0, 100, .inl f)) = wX z σ ad (xA τ 600 f) := rfl
theorem cl_70 : (wX z σ ad τ)[70]? = some (ad 70, .inr (9, fsX9 ad τ)) := rfl
theorem cl_71 : (wX z σ ad τ)[71]? = some (ad 71, .inl (z.2.2.1 0, 4, .inl (τ.2.1 902))) := rfl
theorem st_71 {f : Nat → Int32} : (wX z σ ad τ).set 71 (ad 71, .inl (z.2.2.1 0, 4, .inl f)) = wX z σ ad (xA τ 902 f) := rfl
theorem cl_72 : (wX z σ ad τ)[72]? = some (ad 72, .inl (z.2.2.1 0, 32, .inl (τ.2.1 903))) := rfl
theorem st_72 {f : Nat → Int32} : (wX z σ ad τ).set 72 (ad 72, .inl (z.2.2.1 0, 32, .inl f)) = wX z σ ad (xA τ 903 f) := rfl
theorem cl_73 : (wX z σ ad τ)[73]? = some (ad 73, .inl (z.2.2.1 0, 32, .inl (τ.2.1 904))) := rfl
theorem st_73 {f : Nat → Int32} : (wX z σ ad τ).set 73 (ad 73, .inl (z.2.2.1 0, 32, .inl f)) = wX z σ ad (xA τ 904 f) := rfl
theorem cl_74 : (wX z σ ad τ)[74]? = some (ad 74, .inl (z.2.2.1 0, 4, .inl (τ.2.1 906))) := rfl
theorem st_74 {f : Nat → Int32} : (wX z σ ad τ).set 74 (ad 74, .inl (z.2.2.1 0, 4, .inl f)) = wX z σ ad (xA τ 906 f) := rfl
theorem cl_75 : (wX z σ ad τ)[75]? = some (ad 75, .inl (z.2.2.1 0, 4, .inl (τ.2.1 907))) := rfl
theorem st_75 {f : Nat → Int32} : (wX z σ ad τ).set 75 (ad 75, .inl (z.2.2.1 0, 4, .inl f)) = wX z σ ad (xA τ 907 f) := rfl
theorem cl_76 : (wX z σ ad τ)[76]? = some (ad 76, .inr (2, fsX2 ad τ)) := rfl
theorem cl_77 : (wX z σ ad τ)[77]? = some (ad 77, .inl (z.2.2.1 1, 24, .inl (τ.2.1 206))) := rfl
theorem st_77 {f : Nat → Int32} : (wX z σ ad τ).set 77 (ad 77, .inl (z.2.2.1 1, 24, .inl f)) = wX z σ ad (xA τ 206 f) := rfl
theorem cl_78 : (wX z σ ad τ)[78]? = some (ad 78, .inr (8, fsX8 ad τ)) := rfl
theorem cl_79 : (wX z σ ad τ)[79]? = some (ad 79, .inl (z.2.2.1 2, 73, .inr (.inl (τ.2.2.1)))) := rfl
theorem st_79 {f : Nat → Int64} : (wX z σ ad τ).set 79 (ad 79, .inl (z.2.2.1 2, 73, .inr (.inl f))) = wX z σ ad (xJ τ f) := rfl
end ST
theorem inX11 : ∀ w ∈ u_ws RX11 TX11 52, w ∈ GW := by
  intro w h
  obtain ⟨k, hk, rfl⟩ := List.mem_map.mp h
  have hk := List.mem_range.mp hk
  rcases k with _ | k
  · exact gw_t5 222 (by decide +kernel) (by decide +kernel)
  rcases k with _ | k
  · exact gw_t5 224 (by decide +kernel) (by decide +kernel)
  rcases k with _ | k
  · exact gw_t5 226 (by decide +kernel) (by decide +kernel)
  rcases k with _ | k
  · exact gw_t5 228 (by decide +kernel) (by decide +kernel)
  rcases k with _ | k
  · exact gw_t5 230 (by decide +kernel) (by decide +kernel)
  rcases k with _ | k
  · exact gw_t5 232 (by decide +kernel) (by decide +kernel)
  rcases k with _ | k
  · exact gw_t5 234 (by decide +kernel) (by decide +kernel)
  rcases k with _ | k
  · exact gw_t5 236 (by decide +kernel) (by decide +kernel)
  rcases k with _ | k
  · exact gw_t5 238 (by decide +kernel) (by decide +kernel)
  rcases k with _ | k
  · exact gw_t6 0 (by decide +kernel) (by decide +kernel)
  rcases k with _ | k
  · exact gw_t6 2 (by decide +kernel) (by decide +kernel)
  rcases k with _ | k
  · exact gw_t6 4 (by decide +kernel) (by decide +kernel)
  rcases k with _ | k
  · exact gw_t6 6 (by decide +kernel) (by decide +kernel)
  rcases k with _ | k
  · exact gw_t6 8 (by decide +kernel) (by decide +kernel)
  rcases k with _ | k
  · exact gw_t6 10 (by decide +kernel) (by decide +kernel)
  rcases k with _ | k
  · exact gw_t6 12 (by decide +kernel) (by decide +kernel)
  rcases k with _ | k
  · exact gw_t6 14 (by decide +kernel) (by decide +kernel)
  rcases k with _ | k
  · exact gw_t6 16 (by decide +kernel) (by decide +kernel)
  rcases k with _ | k
  · exact gw_t6 18 (by decide +kernel) (by decide +kernel)
  rcases k with _ | k
  · exact gw_t6 20 (by decide +kernel) (by decide +kernel)
  rcases k with _ | k
  · exact gw_t6 22 (by decide +kernel) (by decide +kernel)
  rcases k with _ | k
  · exact gw_t6 24 (by decide +kernel) (by decide +kernel)
  rcases k with _ | k
  · exact gw_t6 26 (by decide +kernel) (by decide +kernel)
  rcases k with _ | k
  · exact gw_t6 28 (by decide +kernel) (by decide +kernel)
  rcases k with _ | k
  · exact gw_t6 30 (by decide +kernel) (by decide +kernel)
  rcases k with _ | k
  · exact gw_t6 32 (by decide +kernel) (by decide +kernel)
  rcases k with _ | k
  · exact gw_t6 34 (by decide +kernel) (by decide +kernel)
  rcases k with _ | k
  · exact gw_t6 36 (by decide +kernel) (by decide +kernel)
  rcases k with _ | k
  · exact gw_t6 38 (by decide +kernel) (by decide +kernel)
  rcases k with _ | k
  · exact gw_t6 40 (by decide +kernel) (by decide +kernel)
  rcases k with _ | k
  · exact gw_t6 42 (by decide +kernel) (by decide +kernel)
  rcases k with _ | k
  · exact gw_t6 44 (by decide +kernel) (by decide +kernel)
  rcases k with _ | k
  · exact gw_t6 46 (by decide +kernel) (by decide +kernel)
  rcases k with _ | k
  · exact gw_t6 48 (by decide +kernel) (by decide +kernel)
  rcases k with _ | k
  · exact gw_t6 50 (by decide +kernel) (by decide +kernel)
  rcases k with _ | k
  · exact gw_t6 52 (by decide +kernel) (by decide +kernel)
  rcases k with _ | k
  · exact gw_t6 54 (by decide +kernel) (by decide +kernel)
  rcases k with _ | k
  · exact gw_t6 56 (by decide +kernel) (by decide +kernel)
  rcases k with _ | k
  · exact gw_t6 58 (by decide +kernel) (by decide +kernel)
  rcases k with _ | k
  · exact gw_t6 60 (by decide +kernel) (by decide +kernel)
  rcases k with _ | k
  · exact gw_t6 62 (by decide +kernel) (by decide +kernel)
  rcases k with _ | k
  · exact gw_t6 64 (by decide +kernel) (by decide +kernel)
  rcases k with _ | k
  · exact gw_t6 66 (by decide +kernel) (by decide +kernel)
  rcases k with _ | k
  · exact gw_t6 68 (by decide +kernel) (by decide +kernel)
  rcases k with _ | k
  · exact gw_t6 70 (by decide +kernel) (by decide +kernel)
  rcases k with _ | k
  · exact gw_t6 72 (by decide +kernel) (by decide +kernel)
  rcases k with _ | k
  · exact gw_t6 74 (by decide +kernel) (by decide +kernel)
  rcases k with _ | k
  · exact gw_t6 76 (by decide +kernel) (by decide +kernel)
  rcases k with _ | k
  · exact gw_t6 78 (by decide +kernel) (by decide +kernel)
  rcases k with _ | k
  · exact gw_t6 80 (by decide +kernel) (by decide +kernel)
  rcases k with _ | k
  · exact gw_t6 82 (by decide +kernel) (by decide +kernel)
  rcases k with _ | k
  · exact gw_t6 84 (by decide +kernel) (by decide +kernel)
  · omega
theorem inX10 : ∀ w ∈ u_ws RX10 TX10 9, w ∈ GW := by
  intro w h
  obtain ⟨k, hk, rfl⟩ := List.mem_map.mp h
  have hk := List.mem_range.mp hk
  rcases k with _ | k
  · exact gw_t2 99 (by decide +kernel) (by decide +kernel)
  rcases k with _ | k
  · exact gw_t2 101 (by decide +kernel) (by decide +kernel)
  rcases k with _ | k
  · exact gw_t2 103 (by decide +kernel) (by decide +kernel)
  rcases k with _ | k
  · exact gw_t2 105 (by decide +kernel) (by decide +kernel)
  rcases k with _ | k
  · exact gw_t2 107 (by decide +kernel) (by decide +kernel)
  rcases k with _ | k
  · exact gw_t2 109 (by decide +kernel) (by decide +kernel)
  rcases k with _ | k
  · exact gw_t2 111 (by decide +kernel) (by decide +kernel)
  rcases k with _ | k
  · exact gw_t2 113 (by decide +kernel) (by decide +kernel)
  rcases k with _ | k
  · exact gw_t2 115 (by decide +kernel) (by decide +kernel)
  · omega
theorem inX1 : ∀ w ∈ u_ws RX1 TX1 16, w ∈ GW := by
  intro w h
  obtain ⟨k, hk, rfl⟩ := List.mem_map.mp h
  have hk := List.mem_range.mp hk
  rcases k with _ | k
  · exact gw_t1 81 (by decide +kernel) (by decide +kernel)
  rcases k with _ | k
  · exact gw_t1 83 (by decide +kernel) (by decide +kernel)
  rcases k with _ | k
  · exact gw_t1 85 (by decide +kernel) (by decide +kernel)
  rcases k with _ | k
  · exact gw_t1 87 (by decide +kernel) (by decide +kernel)
  rcases k with _ | k
  · exact gw_t1 89 (by decide +kernel) (by decide +kernel)
  rcases k with _ | k
  · exact gw_t1 91 (by decide +kernel) (by decide +kernel)
  rcases k with _ | k
  · exact gw_t1 93 (by decide +kernel) (by decide +kernel)
  rcases k with _ | k
  · exact gw_t1 95 (by decide +kernel) (by decide +kernel)
  rcases k with _ | k
  · exact gw_t1 97 (by decide +kernel) (by decide +kernel)
  rcases k with _ | k
  · exact gw_t1 99 (by decide +kernel) (by decide +kernel)
  rcases k with _ | k
  · exact gw_t1 101 (by decide +kernel) (by decide +kernel)
  rcases k with _ | k
  · exact gw_t1 103 (by decide +kernel) (by decide +kernel)
  rcases k with _ | k
  · exact gw_t1 105 (by decide +kernel) (by decide +kernel)
  rcases k with _ | k
  · exact gw_t1 107 (by decide +kernel) (by decide +kernel)
  rcases k with _ | k
  · exact gw_t1 109 (by decide +kernel) (by decide +kernel)
  rcases k with _ | k
  · exact gw_t1 111 (by decide +kernel) (by decide +kernel)
  · omega
theorem inX4 : ∀ w ∈ u_ws RX4 TX4 5, w ∈ GW := by
  intro w h
  obtain ⟨k, hk, rfl⟩ := List.mem_map.mp h
  have hk := List.mem_range.mp hk
  rcases k with _ | k
  · exact gw_t1 132 (by decide +kernel) (by decide +kernel)
  rcases k with _ | k
  · exact gw_t1 134 (by decide +kernel) (by decide +kernel)
  rcases k with _ | k
  · exact gw_t1 136 (by decide +kernel) (by decide +kernel)
  rcases k with _ | k
  · exact gw_t1 138 (by decide +kernel) (by decide +kernel)
  rcases k with _ | k
  · exact gw_t1 140 (by decide +kernel) (by decide +kernel)
  · omega
theorem inX7 : ∀ w ∈ u_ws RX7 TX7 5, w ∈ GW := by
  intro w h
  obtain ⟨k, hk, rfl⟩ := List.mem_map.mp h
  have hk := List.mem_range.mp hk
  rcases k with _ | k
  · exact gw_t1 155 (by decide +kernel) (by decide +kernel)
  rcases k with _ | k
  · exact gw_t1 157 (by decide +kernel) (by decide +kernel)
  rcases k with _ | k
  · exact gw_t1 159 (by decide +kernel) (by decide +kernel)
  rcases k with _ | k
  · exact gw_t1 161 (by decide +kernel) (by decide +kernel)
  rcases k with _ | k
  · exact gw_t1 163 (by decide +kernel) (by decide +kernel)
  · omega
theorem inX3 : ∀ w ∈ u_ws RX3 TX3 10, w ∈ GW := by
  intro w h
  obtain ⟨k, hk, rfl⟩ := List.mem_map.mp h
  have hk := List.mem_range.mp hk
  rcases k with _ | k
  · exact gw_t1 187 (by decide +kernel) (by decide +kernel)
  rcases k with _ | k
  · exact gw_t1 189 (by decide +kernel) (by decide +kernel)
  rcases k with _ | k
  · exact gw_t1 191 (by decide +kernel) (by decide +kernel)
  rcases k with _ | k
  · exact gw_t1 193 (by decide +kernel) (by decide +kernel)
  rcases k with _ | k
  · exact gw_t1 195 (by decide +kernel) (by decide +kernel)
  rcases k with _ | k
  · exact gw_t1 197 (by decide +kernel) (by decide +kernel)
  rcases k with _ | k
  · exact gw_t1 199 (by decide +kernel) (by decide +kernel)
  rcases k with _ | k
  · exact gw_t1 201 (by decide +kernel) (by decide +kernel)
  rcases k with _ | k
  · exact gw_t1 203 (by decide +kernel) (by decide +kernel)
  rcases k with _ | k
  · exact gw_t1 205 (by decide +kernel) (by decide +kernel)
  · omega
theorem inX5 : ∀ w ∈ u_ws RX5 TX5 6, w ∈ GW := by
  intro w h
  obtain ⟨k, hk, rfl⟩ := List.mem_map.mp h
  have hk := List.mem_range.mp hk
  rcases k with _ | k
  · exact gw_t1 222 (by decide +kernel) (by decide +kernel)
  rcases k with _ | k
  · exact gw_t1 224 (by decide +kernel) (by decide +kernel)
  rcases k with _ | k
  · exact gw_t1 226 (by decide +kernel) (by decide +kernel)
  rcases k with _ | k
  · exact gw_t1 228 (by decide +kernel) (by decide +kernel)
  rcases k with _ | k
  · exact gw_t1 230 (by decide +kernel) (by decide +kernel)
  rcases k with _ | k
  · exact gw_t1 232 (by decide +kernel) (by decide +kernel)
  · omega
theorem inX6 : ∀ w ∈ u_ws RX6 TX6 2, w ∈ GW := by
  intro w h
  obtain ⟨k, hk, rfl⟩ := List.mem_map.mp h
  have hk := List.mem_range.mp hk
  rcases k with _ | k
  · exact gw_t2 5 (by decide +kernel) (by decide +kernel)
  rcases k with _ | k
  · exact gw_t2 7 (by decide +kernel) (by decide +kernel)
  · omega
theorem inX9 : ∀ w ∈ u_ws RX9 TX9 8, w ∈ GW := by
  intro w h
  obtain ⟨k, hk, rfl⟩ := List.mem_map.mp h
  have hk := List.mem_range.mp hk
  rcases k with _ | k
  · exact gw_t2 27 (by decide +kernel) (by decide +kernel)
  rcases k with _ | k
  · exact gw_t2 29 (by decide +kernel) (by decide +kernel)
  rcases k with _ | k
  · exact gw_t2 31 (by decide +kernel) (by decide +kernel)
  rcases k with _ | k
  · exact gw_t2 33 (by decide +kernel) (by decide +kernel)
  rcases k with _ | k
  · exact gw_t2 35 (by decide +kernel) (by decide +kernel)
  rcases k with _ | k
  · exact gw_t2 37 (by decide +kernel) (by decide +kernel)
  rcases k with _ | k
  · exact gw_t2 39 (by decide +kernel) (by decide +kernel)
  rcases k with _ | k
  · exact gw_t2 41 (by decide +kernel) (by decide +kernel)
  · omega
theorem inX2 : ∀ w ∈ u_ws RX2 TX2 8, w ∈ GW := by
  intro w h
  obtain ⟨k, hk, rfl⟩ := List.mem_map.mp h
  have hk := List.mem_range.mp hk
  rcases k with _ | k
  · exact gw_t2 60 (by decide +kernel) (by decide +kernel)
  rcases k with _ | k
  · exact gw_t2 62 (by decide +kernel) (by decide +kernel)
  rcases k with _ | k
  · exact gw_t2 64 (by decide +kernel) (by decide +kernel)
  rcases k with _ | k
  · exact gw_t2 66 (by decide +kernel) (by decide +kernel)
  rcases k with _ | k
  · exact gw_t2 68 (by decide +kernel) (by decide +kernel)
  rcases k with _ | k
  · exact gw_t2 70 (by decide +kernel) (by decide +kernel)
  rcases k with _ | k
  · exact gw_t2 72 (by decide +kernel) (by decide +kernel)
  rcases k with _ | k
  · exact gw_t2 74 (by decide +kernel) (by decide +kernel)
  · omega
theorem inX8 : ∀ w ∈ u_ws RX8 TX8 1, w ∈ GW := by
  intro w h
  obtain ⟨k, hk, rfl⟩ := List.mem_map.mp h
  have hk := List.mem_range.mp hk
  rcases k with _ | k
  · exact gw_t2 86 (by decide +kernel) (by decide +kernel)
  · omega
theorem inX0 : ∀ w ∈ u_ws RX0 TX0 10, w ∈ GW := by
  intro w h
  obtain ⟨k, hk, rfl⟩ := List.mem_map.mp h
  have hk := List.mem_range.mp hk
  rcases k with _ | k
  · exact gw_t3 151 (by decide +kernel) (by decide +kernel)
  rcases k with _ | k
  · exact gw_t3 153 (by decide +kernel) (by decide +kernel)
  rcases k with _ | k
  · exact gw_t3 155 (by decide +kernel) (by decide +kernel)
  rcases k with _ | k
  · exact gw_t3 157 (by decide +kernel) (by decide +kernel)
  rcases k with _ | k
  · exact gw_t3 159 (by decide +kernel) (by decide +kernel)
  rcases k with _ | k
  · exact gw_t3 161 (by decide +kernel) (by decide +kernel)
  rcases k with _ | k
  · exact gw_t3 163 (by decide +kernel) (by decide +kernel)
  rcases k with _ | k
  · exact gw_t3 165 (by decide +kernel) (by decide +kernel)
  rcases k with _ | k
  · exact gw_t3 167 (by decide +kernel) (by decide +kernel)
  rcases k with _ | k
  · exact gw_t3 169 (by decide +kernel) (by decide +kernel)
  · omega
