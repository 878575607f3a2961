/-! the cells of a Threads, by its addresses: the order, the numbers by side, the threads by side, the size -/
def cT (G : Gd) (a : Nat → Nat) (p : Nat → Nat) (N : Nat → Nat → Int32) (B F : Nat → Nat → Option Nat) (n : Nat) : va_W :=
  [(a 0, .inr (2, [.ref (a 1), .ref (a 2), .ref (a 3), .ref (a 4), .int (nI n)])),
   (a 1, .inl (G.2.1, 300, .inl (fN p))),
   (a 2, .inl (G.2.2.1, 2, .inr (.inr (.inr (.inr (fun i => some (a (5 + i)))))))),
   (a 3, .inl (G.2.2.1, 2, .inr (.inr (.inr (.inr (fun i => some (a (7 + i)))))))),
   (a 4, .inl (G.2.2.1, 2, .inr (.inr (.inr (.inr (fun i => some (a (9 + i)))))))),
   (a 5, .inl (G.2.1, 300, .inl (N 0))), (a 6, .inl (G.2.1, 300, .inl (N 1))),
   (a 7, .inl (G.2.1, 300, .inl (fO (B 0)))), (a 8, .inl (G.2.1, 300, .inl (fO (B 1)))),
   (a 9, .inl (G.2.1, 300, .inl (fO (F 0)))), (a 10, .inl (G.2.1, 300, .inl (fO (F 1))))]
theorem cT_N {G : Gd} {a p : Nat → Nat} {N : Nat → Nat → Int32} {B F : Nat → Nat → Option Nat} {n d : Nat} {X : va_W} (hd : d < 2) : (cT G a p N B F n ++ X)[5 + d]? = some (a (5 + d), .inl (G.2.1, 300, .inl (N d))) := by
  rcases (show d = 0 ∨ d = 1 by omega) with rfl | rfl <;> rfl
theorem cT_B {G : Gd} {a p : Nat → Nat} {N : Nat → Nat → Int32} {B F : Nat → Nat → Option Nat} {n d : Nat} {X : va_W} (hd : d < 2) : (cT G a p N B F n ++ X)[7 + d]? = some (a (7 + d), .inl (G.2.1, 300, .inl (fO (B d)))) := by
  rcases (show d = 0 ∨ d = 1 by omega) with rfl | rfl <;> rfl
theorem cT_F {G : Gd} {a p : Nat → Nat} {N : Nat → Nat → Int32} {B F : Nat → Nat → Option Nat} {n d : Nat} {X : va_W} (hd : d < 2) : (cT G a p N B F n ++ X)[9 + d]? = some (a (9 + d), .inl (G.2.1, 300, .inl (fO (F d)))) := by
  rcases (show d = 0 ∨ d = 1 by omega) with rfl | rfl <;> rfl
theorem cT_sN {G : Gd} {a p : Nat → Nat} {N : Nat → Nat → Int32} {B F : Nat → Nat → Option Nat} {n d : Nat} {X : va_W} {f : Nat → Int32} (hd : d < 2) : (cT G a p N B F n ++ X).set (5 + d) (a (5 + d), .inl (G.2.1, 300, .inl f)) = cT G a p (va_up N d f) B F n ++ X := by
  rcases (show d = 0 ∨ d = 1 by omega) with rfl | rfl <;> rfl
theorem cT_sB {G : Gd} {a p : Nat → Nat} {N : Nat → Nat → Int32} {B F : Nat → Nat → Option Nat} {n d : Nat} {X : va_W} {f : Nat → Option Nat} (hd : d < 2) : (cT G a p N B F n ++ X).set (7 + d) (a (7 + d), .inl (G.2.1, 300, .inl (fO f))) = cT G a p N (va_up B d f) F n ++ X := by
  rcases (show d = 0 ∨ d = 1 by omega) with rfl | rfl <;> rfl
theorem cT_sF {G : Gd} {a p : Nat → Nat} {N : Nat → Nat → Int32} {B F : Nat → Nat → Option Nat} {n d : Nat} {X : va_W} {f : Nat → Option Nat} (hd : d < 2) : (cT G a p N B F n ++ X).set (9 + d) (a (9 + d), .inl (G.2.1, 300, .inl (fO f))) = cT G a p N B (va_up F d f) n ++ X := by
  rcases (show d = 0 ∨ d = 1 by omega) with rfl | rfl <;> rfl
/-- the cells of a Spread -/
def cS (G : Gd) (a : Nat → Nat) (q r : Nat → Nat) (V : Nat → Nat → Nat) (n : Nat) : va_W :=
  [(a 11, .inr (1, [.ref (a 12), .int (nI n), .ref (a 13), .ref (a 14)])),
   (a 12, .inl (G.2.1, 300, .inl (fN q))), (a 13, .inl (G.2.1, 300, .inl (fN r))),
   (a 14, .inl (G.2.2.1, 2, .inr (.inr (.inr (.inr (fun i => some (a (15 + i)))))))),
   (a 15, .inl (G.2.1, 300, .inl (fN (V 0)))), (a 16, .inl (G.2.1, 300, .inl (fN (V 1))))]
theorem cS_V {G : Gd} {a p : Nat → Nat} {N : Nat → Nat → Int32} {B F : Nat → Nat → Option Nat} {n : Nat} {q r : Nat → Nat} {V : Nat → Nat → Nat} {k d : Nat} (hd : d < 2) : (cT G a p N B F n ++ cS G a q r V k)[15 + d]? = some (a (15 + d), .inl (G.2.1, 300, .inl (fN (V d)))) := by
  rcases (show d = 0 ∨ d = 1 by omega) with rfl | rfl <;> rfl
theorem cS_sV {G : Gd} {a p : Nat → Nat} {N : Nat → Nat → Int32} {B F : Nat → Nat → Option Nat} {n : Nat} {q r : Nat → Nat} {V : Nat → Nat → Nat} {k d : Nat} {f : Nat → Nat} (hd : d < 2) : (cT G a p N B F n ++ cS G a q r V k).set (15 + d) (a (15 + d), .inl (G.2.1, 300, .inl (fN f))) = cT G a p N B F n ++ cS G a q r (va_up V d f) k := by
  rcases (show d = 0 ∨ d = 1 by omega) with rfl | rfl <;> rfl
/-- the cells of a Matching -/
def cM (G : Gd) (a : Nat → Nat) (Hd : Nat → Nat → Nat) (C : Nat → Nat → Option Nat) (w : Nat → Nat) (n : Nat) (cs : Nat → Option Nat) (sn : Nat → Nat) : va_W :=
  [(a 17, .inr (0, [.ref (a 18), .ref (a 21), .ref (a 24), .int (nI n), .ref (a 25), .ref (a 26)])),
   (a 18, .inl (G.2.2.1, 2, .inr (.inr (.inr (.inr (fun i => some (a (19 + i)))))))),
   (a 19, .inl (G.2.1, 300, .inl (fN (Hd 0)))), (a 20, .inl (G.2.1, 300, .inl (fN (Hd 1)))),
   (a 21, .inl (G.2.2.1, 2, .inr (.inr (.inr (.inr (fun i => some (a (22 + i)))))))),
   (a 22, .inl (G.2.1, 300, .inl (fO (C 0)))), (a 23, .inl (G.2.1, 300, .inl (fO (C 1)))),
   (a 24, .inl (G.2.1, 300, .inl (fN w))), (a 25, .inl (G.2.1, 300, .inl (fO cs))), (a 26, .inl (G.2.1, 300, .inl (fN sn)))]
/-- the object itself -/
def cP (a : Nat → Nat) : va_W := [(a 27, .inr (3, [.ref (a 0), .ref (a 11), .ref (a 17)]))]
/-- the cells of the model -/
def cR (G : Gd) (b : Nat → Nat) (n : Nat) (lf rt : Nat → Int32) (lo ro : Nat → Nat) (fo no : Nat → Option Nat) (lm rm : Nat) (pa : Nat → Option Nat) (mt : Nat → Int32) (q : Nat → Nat) (cf : Nat → Option Nat) (fa : Nat → Nat) (kp : Nat → Int32) : va_W :=
  [(b 0, .inr (4, [.int (nI n), .ref (b 1), .ref (b 2), .ref (b 3), .ref (b 4), .ref (b 5), .ref (b 6), .int (nI lm), .int (nI rm), .ref (b 7), .ref (b 8), .ref (b 9), .ref (b 10), .ref (b 11), .ref (b 12)])),
   (b 1, .inl (G.2.1, 300, .inl lf)), (b 2, .inl (G.2.1, 300, .inl rt)), (b 3, .inl (G.2.1, 300, .inl (fN lo))), (b 4, .inl (G.2.1, 300, .inl (fN ro))),
   (b 5, .inl (G.2.1, 300, .inl (fO fo))), (b 6, .inl (G.2.1, 300, .inl (fO no))), (b 7, .inl (G.2.1, 300, .inl (fO pa))), (b 8, .inl (G.2.2.2, 300, .inl mt)),
   (b 9, .inl (G.2.1, 300, .inl (fN q))), (b 10, .inl (G.2.1, 300, .inl (fO cf))), (b 11, .inl (G.2.1, 300, .inl (fN fa))), (b 12, .inl (G.2.1, 300, .inl kp))]
