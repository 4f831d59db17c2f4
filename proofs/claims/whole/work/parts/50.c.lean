theorem j0 : (0 : Int32).toNatClampNeg = 0 := by decide
theorem j1 : (1 : Int32).toNatClampNeg = 1 := by decide
theorem j2 : (2 : Int32).toNatClampNeg = 2 := by decide
theorem j3 : (3 : Int32).toNatClampNeg = 3 := by decide
theorem j4 : (4 : Int32).toNatClampNeg = 4 := by decide
theorem j5 : (5 : Int32).toNatClampNeg = 5 := by decide
theorem j6 : (6 : Int32).toNatClampNeg = 6 := by decide
theorem j7 : (7 : Int32).toNatClampNeg = 7 := by decide
theorem j8 : (8 : Int32).toNatClampNeg = 8 := by decide
theorem j9 : (9 : Int32).toNatClampNeg = 9 := by decide
theorem j10 : (10 : Int32).toNatClampNeg = 10 := by decide
theorem j11 : (11 : Int32).toNatClampNeg = 11 := by decide
theorem j12 : (12 : Int32).toNatClampNeg = 12 := by decide
theorem p10_0 {β : Type} {k : Option β} : pIn (0 : Int32) 10 k = k := pIn_l (by decide)
theorem p10_1 {β : Type} {k : Option β} : pIn (1 : Int32) 10 k = k := pIn_l (by decide)
theorem p10_2 {β : Type} {k : Option β} : pIn (2 : Int32) 10 k = k := pIn_l (by decide)
theorem p10_3 {β : Type} {k : Option β} : pIn (3 : Int32) 10 k = k := pIn_l (by decide)
theorem p10_4 {β : Type} {k : Option β} : pIn (4 : Int32) 10 k = k := pIn_l (by decide)
theorem p10_5 {β : Type} {k : Option β} : pIn (5 : Int32) 10 k = k := pIn_l (by decide)
theorem p10_6 {β : Type} {k : Option β} : pIn (6 : Int32) 10 k = k := pIn_l (by decide)
theorem p10_7 {β : Type} {k : Option β} : pIn (7 : Int32) 10 k = k := pIn_l (by decide)
theorem p10_8 {β : Type} {k : Option β} : pIn (8 : Int32) 10 k = k := pIn_l (by decide)
theorem p10_9 {β : Type} {k : Option β} : pIn (9 : Int32) 10 k = k := pIn_l (by decide)
theorem p12_0 {β : Type} {k : Option β} : pIn (0 : Int32) 12 k = k := pIn_l (by decide)
theorem p12_1 {β : Type} {k : Option β} : pIn (1 : Int32) 12 k = k := pIn_l (by decide)
theorem p12_2 {β : Type} {k : Option β} : pIn (2 : Int32) 12 k = k := pIn_l (by decide)
theorem p12_3 {β : Type} {k : Option β} : pIn (3 : Int32) 12 k = k := pIn_l (by decide)
theorem p12_4 {β : Type} {k : Option β} : pIn (4 : Int32) 12 k = k := pIn_l (by decide)
theorem p12_5 {β : Type} {k : Option β} : pIn (5 : Int32) 12 k = k := pIn_l (by decide)
theorem p12_6 {β : Type} {k : Option β} : pIn (6 : Int32) 12 k = k := pIn_l (by decide)
theorem p12_7 {β : Type} {k : Option β} : pIn (7 : Int32) 12 k = k := pIn_l (by decide)
theorem p12_8 {β : Type} {k : Option β} : pIn (8 : Int32) 12 k = k := pIn_l (by decide)
theorem p12_9 {β : Type} {k : Option β} : pIn (9 : Int32) 12 k = k := pIn_l (by decide)
theorem p12_10 {β : Type} {k : Option β} : pIn (10 : Int32) 12 k = k := pIn_l (by decide)
theorem p12_11 {β : Type} {k : Option β} : pIn (11 : Int32) 12 k = k := pIn_l (by decide)
theorem pB_so {α β : Type} (a : α) (k : α → Option β) : pB (some a) k = k a := rfl
theorem kC_7 {b n : Nat} {dd : Bool} (hb : b < 256) (hn : n < 256) {K : Nat} (hk : kC b = K) {x : Int32} (hx : nI K = x) : fX1_kind (nI (wd b n dd)) = x := by rw [w_kind hb hn, hk, hx]
