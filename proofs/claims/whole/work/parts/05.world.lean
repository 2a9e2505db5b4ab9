abbrev ST : Type := (Nat → Int32) × (Nat → Int64) × (Nat → Nat → Int32) × (Nat → Nat → Int64)
def gI (σ : ST) (k : Nat) : Int32 := σ.1 k
def gJ (σ : ST) (k : Nat) : Int64 := σ.2.1 k
def gA (σ : ST) (k : Nat) : Nat → Int32 := σ.2.2.1 k
def gB (σ : ST) (k : Nat) : Nat → Int64 := σ.2.2.2 k
def pI (σ : ST) (k : Nat) (v : Int32) : ST := (fun j => if j = k then v else σ.1 j, σ.2)
def pJ (σ : ST) (k : Nat) (v : Int64) : ST := (σ.1, fun j => if j = k then v else σ.2.1 j, σ.2.2)
def pF (σ : ST) (k : Nat) (f : Nat → Int32) : ST := (σ.1, σ.2.1, fun j => if j = k then f else σ.2.2.1 j, σ.2.2.2)
def pA (σ : ST) (k i : Nat) (v : Int32) : ST := pF σ k (upd (gA σ k) i v)
def pB (σ : ST) (k i : Nat) (v : Int64) : ST := (σ.1, σ.2.1, σ.2.2.1, fun j => if j = k then vp_updL (gB σ k) i v else σ.2.2.2 j)
def wT (ad : Nat → Nat) (cy : Nat → ClassId) (σ : ST) : va_W := [(ad 0, .inr (8, [.ref (ad 1), .ref (ad 3), .ref (ad 10), .ref (ad 17), .ref (ad 26), .ref (ad 32), .ref (ad 33), .ref (ad 34), .int (gI σ 0), .int (gI σ 1), .int (gI σ 2), .int (gI σ 3)])),
  (ad 1, .inr (5, [.ref (ad 2), .int (gI σ 4)])),
  (ad 2, .inl (cy 1, 28, .inl (gA σ 0))),
  (ad 3, .inr (1, [.ref (ad 4), .ref (ad 5), .ref (ad 6), .ref (ad 7), .ref (ad 8), .ref (ad 9), .int (gI σ 5), .int (gI σ 6), .int (gI σ 7), .int (gI σ 8)])),
  (ad 4, .inl (cy 0, 4, .inl (gA σ 1))),
  (ad 5, .inl (cy 0, 4, .inl (gA σ 2))),
  (ad 6, .inl (cy 0, 4, .inl (gA σ 3))),
  (ad 7, .inl (cy 0, 6, .inl (gA σ 4))),
  (ad 8, .inl (cy 0, 6, .inl (gA σ 5))),
  (ad 9, .inl (cy 2, 6, .inl (gA σ 6))),
  (ad 10, .inr (1, [.ref (ad 11), .ref (ad 12), .ref (ad 13), .ref (ad 14), .ref (ad 15), .ref (ad 16), .int (gI σ 9), .int (gI σ 10), .int (gI σ 11), .int (gI σ 12)])),
  (ad 11, .inl (cy 0, 4, .inl (gA σ 7))),
  (ad 12, .inl (cy 0, 4, .inl (gA σ 8))),
  (ad 13, .inl (cy 0, 4, .inl (gA σ 9))),
  (ad 14, .inl (cy 0, 6, .inl (gA σ 10))),
  (ad 15, .inl (cy 0, 6, .inl (gA σ 11))),
  (ad 16, .inl (cy 2, 6, .inl (gA σ 12))),
  (ad 17, .inr (7, [.ref (ad 18), .ref (ad 19), .int (gI σ 13)])),
  (ad 18, .inl (cy 0, 6, .inl (gA σ 13))),
  (ad 19, .inl (cy 6, 6, .inr (.inr (.inr (.inr (fun i => if i < 6 then some (ad (20 + i)) else none)))))),
  (ad 20, .inl (cy 3, 7, .inr (.inl (gB σ 0)))),
  (ad 21, .inl (cy 3, 7, .inr (.inl (gB σ 1)))),
  (ad 22, .inl (cy 3, 7, .inr (.inl (gB σ 2)))),
  (ad 23, .inl (cy 3, 7, .inr (.inl (gB σ 3)))),
  (ad 24, .inl (cy 3, 7, .inr (.inl (gB σ 4)))),
  (ad 25, .inl (cy 3, 7, .inr (.inl (gB σ 5)))),
  (ad 26, .inl (cy 5, 5, .inr (.inr (.inr (.inr (fun i => if i < 5 then some (ad (27 + i)) else none)))))),
  (ad 27, .inr (6, [])),
  (ad 28, .inr (3, [])),
  (ad 29, .inr (4, [])),
  (ad 30, .inr (2, [])),
  (ad 31, .inr (0, [])),
  (ad 32, .inl (cy 0, 4, .inl (gA σ 14))),
  (ad 33, .inl (cy 0, 32, .inl (gA σ 15))),
  (ad 34, .inl (cy 0, 32, .inl (gA σ 16)))]
def wM (ad : Nat → Nat) (cy : Nat → ClassId) (σ : ST) : va_W := [(ad 0, .inr (9, [.int (gI σ 0), .int (gI σ 1), .int (gI σ 2), .ref (ad 1), .ref (ad 2), .ref (ad 3), .int (gI σ 3), .int (gI σ 4), .int (gI σ 5), .int (gI σ 6), .ref (ad 4), .ref (ad 5), .ref (ad 6), .int (gI σ 7), .ref (ad 7), .int (gI σ 8), .int (gI σ 9), .int (gI σ 10), .ref (ad 18), .ref (ad 8), .ref (ad 9), .ref (ad 10), .long (gJ σ 0), .ref (ad 11), .int (gI σ 11), .int (gI σ 12), .int (gI σ 13), .int (gI σ 14), .int (gI σ 15), .int (gI σ 16), .ref (ad 12), .ref (ad 13), .ref (ad 14), .ref (ad 15), .ref (ad 16), .ref (ad 17), .long (gJ σ 1)])),
  (ad 1, .inl (cy 0, 4, .inl (gA σ 0))),
  (ad 2, .inl (cy 0, 4, .inl (gA σ 1))),
  (ad 3, .inl (cy 0, 4, .inl (gA σ 2))),
  (ad 4, .inl (cy 0, 6, .inl (gA σ 3))),
  (ad 5, .inl (cy 0, 6, .inl (gA σ 4))),
  (ad 6, .inl (cy 0, 6, .inl (gA σ 5))),
  (ad 7, .inl (cy 4, 28, .inl (gA σ 6))),
  (ad 8, .inl (cy 0, 16, .inl (gA σ 7))),
  (ad 9, .inl (cy 0, 16, .inl (gA σ 8))),
  (ad 10, .inl (cy 0, 16, .inl (gA σ 9))),
  (ad 11, .inl (cy 0, 4, .inl (gA σ 10))),
  (ad 12, .inl (cy 0, 4, .inl (gA σ 11))),
  (ad 13, .inl (cy 0, 4, .inl (gA σ 12))),
  (ad 14, .inl (cy 0, 4, .inl (gA σ 13))),
  (ad 15, .inl (cy 0, 6, .inl (gA σ 14))),
  (ad 16, .inl (cy 0, 6, .inl (gA σ 15))),
  (ad 17, .inl (cy 0, 6, .inl (gA σ 16))),
  (ad 18, .inl (cy 3, 72, .inr (.inl (gB σ 0))))]
theorem in_of {ws : List Cond} (h : ws.all (fun w => decide (w ∈ lw_tbl) && keepW w) = true) : ∀ w ∈ ws, w ∈ lw_tbl ∧ keepW w = true := fun w hw => by
  have k := List.all_eq_true.mp h w hw
  rw [Bool.and_eq_true] at k
  exact ⟨of_decide_eq_true k.1, k.2⟩
theorem wT_fI0 (ad : Nat → Nat) (cy : Nat → ClassId) (σ : ST) (v : Int32) : (wT ad cy σ).set 0 (ad 0, .inr (8, List.set [.ref (ad 1), .ref (ad 3), .ref (ad 10), .ref (ad 17), .ref (ad 26), .ref (ad 32), .ref (ad 33), .ref (ad 34), .int (gI σ 0), .int (gI σ 1), .int (gI σ 2), .int (gI σ 3)] 8 (.int v))) = wT ad cy (pI σ 0 v) := rfl
theorem wT_fI1 (ad : Nat → Nat) (cy : Nat → ClassId) (σ : ST) (v : Int32) : (wT ad cy σ).set 0 (ad 0, .inr (8, List.set [.ref (ad 1), .ref (ad 3), .ref (ad 10), .ref (ad 17), .ref (ad 26), .ref (ad 32), .ref (ad 33), .ref (ad 34), .int (gI σ 0), .int (gI σ 1), .int (gI σ 2), .int (gI σ 3)] 9 (.int v))) = wT ad cy (pI σ 1 v) := rfl
theorem wT_fI2 (ad : Nat → Nat) (cy : Nat → ClassId) (σ : ST) (v : Int32) : (wT ad cy σ).set 0 (ad 0, .inr (8, List.set [.ref (ad 1), .ref (ad 3), .ref (ad 10), .ref (ad 17), .ref (ad 26), .ref (ad 32), .ref (ad 33), .ref (ad 34), .int (gI σ 0), .int (gI σ 1), .int (gI σ 2), .int (gI σ 3)] 10 (.int v))) = wT ad cy (pI σ 2 v) := rfl
theorem wT_fI3 (ad : Nat → Nat) (cy : Nat → ClassId) (σ : ST) (v : Int32) : (wT ad cy σ).set 0 (ad 0, .inr (8, List.set [.ref (ad 1), .ref (ad 3), .ref (ad 10), .ref (ad 17), .ref (ad 26), .ref (ad 32), .ref (ad 33), .ref (ad 34), .int (gI σ 0), .int (gI σ 1), .int (gI σ 2), .int (gI σ 3)] 11 (.int v))) = wT ad cy (pI σ 3 v) := rfl
theorem wT_fI4 (ad : Nat → Nat) (cy : Nat → ClassId) (σ : ST) (v : Int32) : (wT ad cy σ).set 1 (ad 1, .inr (5, List.set [.ref (ad 2), .int (gI σ 4)] 1 (.int v))) = wT ad cy (pI σ 4 v) := rfl
theorem wT_aI0 (ad : Nat → Nat) (cy : Nat → ClassId) (σ : ST) (i : Nat) (v : Int32) : (wT ad cy σ).set 2 (ad 2, .inl (cy 1, 28, .inl (upd (gA σ 0) i v))) = wT ad cy (pA σ 0 i v) := rfl
theorem wT_fI5 (ad : Nat → Nat) (cy : Nat → ClassId) (σ : ST) (v : Int32) : (wT ad cy σ).set 3 (ad 3, .inr (1, List.set [.ref (ad 4), .ref (ad 5), .ref (ad 6), .ref (ad 7), .ref (ad 8), .ref (ad 9), .int (gI σ 5), .int (gI σ 6), .int (gI σ 7), .int (gI σ 8)] 6 (.int v))) = wT ad cy (pI σ 5 v) := rfl
theorem wT_fI6 (ad : Nat → Nat) (cy : Nat → ClassId) (σ : ST) (v : Int32) : (wT ad cy σ).set 3 (ad 3, .inr (1, List.set [.ref (ad 4), .ref (ad 5), .ref (ad 6), .ref (ad 7), .ref (ad 8), .ref (ad 9), .int (gI σ 5), .int (gI σ 6), .int (gI σ 7), .int (gI σ 8)] 7 (.int v))) = wT ad cy (pI σ 6 v) := rfl
theorem wT_fI7 (ad : Nat → Nat) (cy : Nat → ClassId) (σ : ST) (v : Int32) : (wT ad cy σ).set 3 (ad 3, .inr (1, List.set [.ref (ad 4), .ref (ad 5), .ref (ad 6), .ref (ad 7), .ref (ad 8), .ref (ad 9), .int (gI σ 5), .int (gI σ 6), .int (gI σ 7), .int (gI σ 8)] 8 (.int v))) = wT ad cy (pI σ 7 v) := rfl
theorem wT_fI8 (ad : Nat → Nat) (cy : Nat → ClassId) (σ : ST) (v : Int32) : (wT ad cy σ).set 3 (ad 3, .inr (1, List.set [.ref (ad 4), .ref (ad 5), .ref (ad 6), .ref (ad 7), .ref (ad 8), .ref (ad 9), .int (gI σ 5), .int (gI σ 6), .int (gI σ 7), .int (gI σ 8)] 9 (.int v))) = wT ad cy (pI σ 8 v) := rfl
theorem wT_aI1 (ad : Nat → Nat) (cy : Nat → ClassId) (σ : ST) (i : Nat) (v : Int32) : (wT ad cy σ).set 4 (ad 4, .inl (cy 0, 4, .inl (upd (gA σ 1) i v))) = wT ad cy (pA σ 1 i v) := rfl
theorem wT_aI2 (ad : Nat → Nat) (cy : Nat → ClassId) (σ : ST) (i : Nat) (v : Int32) : (wT ad cy σ).set 5 (ad 5, .inl (cy 0, 4, .inl (upd (gA σ 2) i v))) = wT ad cy (pA σ 2 i v) := rfl
theorem wT_aI3 (ad : Nat → Nat) (cy : Nat → ClassId) (σ : ST) (i : Nat) (v : Int32) : (wT ad cy σ).set 6 (ad 6, .inl (cy 0, 4, .inl (upd (gA σ 3) i v))) = wT ad cy (pA σ 3 i v) := rfl
theorem wT_aI4 (ad : Nat → Nat) (cy : Nat → ClassId) (σ : ST) (i : Nat) (v : Int32) : (wT ad cy σ).set 7 (ad 7, .inl (cy 0, 6, .inl (upd (gA σ 4) i v))) = wT ad cy (pA σ 4 i v) := rfl
theorem wT_aI5 (ad : Nat → Nat) (cy : Nat → ClassId) (σ : ST) (i : Nat) (v : Int32) : (wT ad cy σ).set 8 (ad 8, .inl (cy 0, 6, .inl (upd (gA σ 5) i v))) = wT ad cy (pA σ 5 i v) := rfl
theorem wT_aI6 (ad : Nat → Nat) (cy : Nat → ClassId) (σ : ST) (i : Nat) (v : Int32) : (wT ad cy σ).set 9 (ad 9, .inl (cy 2, 6, .inl (upd (gA σ 6) i v))) = wT ad cy (pA σ 6 i v) := rfl
theorem wT_fI9 (ad : Nat → Nat) (cy : Nat → ClassId) (σ : ST) (v : Int32) : (wT ad cy σ).set 10 (ad 10, .inr (1, List.set [.ref (ad 11), .ref (ad 12), .ref (ad 13), .ref (ad 14), .ref (ad 15), .ref (ad 16), .int (gI σ 9), .int (gI σ 10), .int (gI σ 11), .int (gI σ 12)] 6 (.int v))) = wT ad cy (pI σ 9 v) := rfl
theorem wT_fI10 (ad : Nat → Nat) (cy : Nat → ClassId) (σ : ST) (v : Int32) : (wT ad cy σ).set 10 (ad 10, .inr (1, List.set [.ref (ad 11), .ref (ad 12), .ref (ad 13), .ref (ad 14), .ref (ad 15), .ref (ad 16), .int (gI σ 9), .int (gI σ 10), .int (gI σ 11), .int (gI σ 12)] 7 (.int v))) = wT ad cy (pI σ 10 v) := rfl
theorem wT_fI11 (ad : Nat → Nat) (cy : Nat → ClassId) (σ : ST) (v : Int32) : (wT ad cy σ).set 10 (ad 10, .inr (1, List.set [.ref (ad 11), .ref (ad 12), .ref (ad 13), .ref (ad 14), .ref (ad 15), .ref (ad 16), .int (gI σ 9), .int (gI σ 10), .int (gI σ 11), .int (gI σ 12)] 8 (.int v))) = wT ad cy (pI σ 11 v) := rfl
theorem wT_fI12 (ad : Nat → Nat) (cy : Nat → ClassId) (σ : ST) (v : Int32) : (wT ad cy σ).set 10 (ad 10, .inr (1, List.set [.ref (ad 11), .ref (ad 12), .ref (ad 13), .ref (ad 14), .ref (ad 15), .ref (ad 16), .int (gI σ 9), .int (gI σ 10), .int (gI σ 11), .int (gI σ 12)] 9 (.int v))) = wT ad cy (pI σ 12 v) := rfl
theorem wT_aI7 (ad : Nat → Nat) (cy : Nat → ClassId) (σ : ST) (i : Nat) (v : Int32) : (wT ad cy σ).set 11 (ad 11, .inl (cy 0, 4, .inl (upd (gA σ 7) i v))) = wT ad cy (pA σ 7 i v) := rfl
theorem wT_aI8 (ad : Nat → Nat) (cy : Nat → ClassId) (σ : ST) (i : Nat) (v : Int32) : (wT ad cy σ).set 12 (ad 12, .inl (cy 0, 4, .inl (upd (gA σ 8) i v))) = wT ad cy (pA σ 8 i v) := rfl
theorem wT_aI9 (ad : Nat → Nat) (cy : Nat → ClassId) (σ : ST) (i : Nat) (v : Int32) : (wT ad cy σ).set 13 (ad 13, .inl (cy 0, 4, .inl (upd (gA σ 9) i v))) = wT ad cy (pA σ 9 i v) := rfl
theorem wT_aI10 (ad : Nat → Nat) (cy : Nat → ClassId) (σ : ST) (i : Nat) (v : Int32) : (wT ad cy σ).set 14 (ad 14, .inl (cy 0, 6, .inl (upd (gA σ 10) i v))) = wT ad cy (pA σ 10 i v) := rfl
theorem wT_aI11 (ad : Nat → Nat) (cy : Nat → ClassId) (σ : ST) (i : Nat) (v : Int32) : (wT ad cy σ).set 15 (ad 15, .inl (cy 0, 6, .inl (upd (gA σ 11) i v))) = wT ad cy (pA σ 11 i v) := rfl
theorem wT_aI12 (ad : Nat → Nat) (cy : Nat → ClassId) (σ : ST) (i : Nat) (v : Int32) : (wT ad cy σ).set 16 (ad 16, .inl (cy 2, 6, .inl (upd (gA σ 12) i v))) = wT ad cy (pA σ 12 i v) := rfl
theorem wT_fI13 (ad : Nat → Nat) (cy : Nat → ClassId) (σ : ST) (v : Int32) : (wT ad cy σ).set 17 (ad 17, .inr (7, List.set [.ref (ad 18), .ref (ad 19), .int (gI σ 13)] 2 (.int v))) = wT ad cy (pI σ 13 v) := rfl
theorem wT_aI13 (ad : Nat → Nat) (cy : Nat → ClassId) (σ : ST) (i : Nat) (v : Int32) : (wT ad cy σ).set 18 (ad 18, .inl (cy 0, 6, .inl (upd (gA σ 13) i v))) = wT ad cy (pA σ 13 i v) := rfl
theorem wT_aI14 (ad : Nat → Nat) (cy : Nat → ClassId) (σ : ST) (i : Nat) (v : Int32) : (wT ad cy σ).set 32 (ad 32, .inl (cy 0, 4, .inl (upd (gA σ 14) i v))) = wT ad cy (pA σ 14 i v) := rfl
theorem wT_aI15 (ad : Nat → Nat) (cy : Nat → ClassId) (σ : ST) (i : Nat) (v : Int32) : (wT ad cy σ).set 33 (ad 33, .inl (cy 0, 32, .inl (upd (gA σ 15) i v))) = wT ad cy (pA σ 15 i v) := rfl
theorem wT_aI16 (ad : Nat → Nat) (cy : Nat → ClassId) (σ : ST) (i : Nat) (v : Int32) : (wT ad cy σ).set 34 (ad 34, .inl (cy 0, 32, .inl (upd (gA σ 16) i v))) = wT ad cy (pA σ 16 i v) := rfl
theorem wM_fI0 (ad : Nat → Nat) (cy : Nat → ClassId) (σ : ST) (v : Int32) : (wM ad cy σ).set 0 (ad 0, .inr (9, List.set [.int (gI σ 0), .int (gI σ 1), .int (gI σ 2), .ref (ad 1), .ref (ad 2), .ref (ad 3), .int (gI σ 3), .int (gI σ 4), .int (gI σ 5), .int (gI σ 6), .ref (ad 4), .ref (ad 5), .ref (ad 6), .int (gI σ 7), .ref (ad 7), .int (gI σ 8), .int (gI σ 9), .int (gI σ 10), .ref (ad 18), .ref (ad 8), .ref (ad 9), .ref (ad 10), .long (gJ σ 0), .ref (ad 11), .int (gI σ 11), .int (gI σ 12), .int (gI σ 13), .int (gI σ 14), .int (gI σ 15), .int (gI σ 16), .ref (ad 12), .ref (ad 13), .ref (ad 14), .ref (ad 15), .ref (ad 16), .ref (ad 17), .long (gJ σ 1)] 0 (.int v))) = wM ad cy (pI σ 0 v) := rfl
theorem wM_fI1 (ad : Nat → Nat) (cy : Nat → ClassId) (σ : ST) (v : Int32) : (wM ad cy σ).set 0 (ad 0, .inr (9, List.set [.int (gI σ 0), .int (gI σ 1), .int (gI σ 2), .ref (ad 1), .ref (ad 2), .ref (ad 3), .int (gI σ 3), .int (gI σ 4), .int (gI σ 5), .int (gI σ 6), .ref (ad 4), .ref (ad 5), .ref (ad 6), .int (gI σ 7), .ref (ad 7), .int (gI σ 8), .int (gI σ 9), .int (gI σ 10), .ref (ad 18), .ref (ad 8), .ref (ad 9), .ref (ad 10), .long (gJ σ 0), .ref (ad 11), .int (gI σ 11), .int (gI σ 12), .int (gI σ 13), .int (gI σ 14), .int (gI σ 15), .int (gI σ 16), .ref (ad 12), .ref (ad 13), .ref (ad 14), .ref (ad 15), .ref (ad 16), .ref (ad 17), .long (gJ σ 1)] 1 (.int v))) = wM ad cy (pI σ 1 v) := rfl
theorem wM_fI2 (ad : Nat → Nat) (cy : Nat → ClassId) (σ : ST) (v : Int32) : (wM ad cy σ).set 0 (ad 0, .inr (9, List.set [.int (gI σ 0), .int (gI σ 1), .int (gI σ 2), .ref (ad 1), .ref (ad 2), .ref (ad 3), .int (gI σ 3), .int (gI σ 4), .int (gI σ 5), .int (gI σ 6), .ref (ad 4), .ref (ad 5), .ref (ad 6), .int (gI σ 7), .ref (ad 7), .int (gI σ 8), .int (gI σ 9), .int (gI σ 10), .ref (ad 18), .ref (ad 8), .ref (ad 9), .ref (ad 10), .long (gJ σ 0), .ref (ad 11), .int (gI σ 11), .int (gI σ 12), .int (gI σ 13), .int (gI σ 14), .int (gI σ 15), .int (gI σ 16), .ref (ad 12), .ref (ad 13), .ref (ad 14), .ref (ad 15), .ref (ad 16), .ref (ad 17), .long (gJ σ 1)] 2 (.int v))) = wM ad cy (pI σ 2 v) := rfl
theorem wM_fI3 (ad : Nat → Nat) (cy : Nat → ClassId) (σ : ST) (v : Int32) : (wM ad cy σ).set 0 (ad 0, .inr (9, List.set [.int (gI σ 0), .int (gI σ 1), .int (gI σ 2), .ref (ad 1), .ref (ad 2), .ref (ad 3), .int (gI σ 3), .int (gI σ 4), .int (gI σ 5), .int (gI σ 6), .ref (ad 4), .ref (ad 5), .ref (ad 6), .int (gI σ 7), .ref (ad 7), .int (gI σ 8), .int (gI σ 9), .int (gI σ 10), .ref (ad 18), .ref (ad 8), .ref (ad 9), .ref (ad 10), .long (gJ σ 0), .ref (ad 11), .int (gI σ 11), .int (gI σ 12), .int (gI σ 13), .int (gI σ 14), .int (gI σ 15), .int (gI σ 16), .ref (ad 12), .ref (ad 13), .ref (ad 14), .ref (ad 15), .ref (ad 16), .ref (ad 17), .long (gJ σ 1)] 6 (.int v))) = wM ad cy (pI σ 3 v) := rfl
theorem wM_fI4 (ad : Nat → Nat) (cy : Nat → ClassId) (σ : ST) (v : Int32) : (wM ad cy σ).set 0 (ad 0, .inr (9, List.set [.int (gI σ 0), .int (gI σ 1), .int (gI σ 2), .ref (ad 1), .ref (ad 2), .ref (ad 3), .int (gI σ 3), .int (gI σ 4), .int (gI σ 5), .int (gI σ 6), .ref (ad 4), .ref (ad 5), .ref (ad 6), .int (gI σ 7), .ref (ad 7), .int (gI σ 8), .int (gI σ 9), .int (gI σ 10), .ref (ad 18), .ref (ad 8), .ref (ad 9), .ref (ad 10), .long (gJ σ 0), .ref (ad 11), .int (gI σ 11), .int (gI σ 12), .int (gI σ 13), .int (gI σ 14), .int (gI σ 15), .int (gI σ 16), .ref (ad 12), .ref (ad 13), .ref (ad 14), .ref (ad 15), .ref (ad 16), .ref (ad 17), .long (gJ σ 1)] 7 (.int v))) = wM ad cy (pI σ 4 v) := rfl
theorem wM_fI5 (ad : Nat → Nat) (cy : Nat → ClassId) (σ : ST) (v : Int32) : (wM ad cy σ).set 0 (ad 0, .inr (9, List.set [.int (gI σ 0), .int (gI σ 1), .int (gI σ 2), .ref (ad 1), .ref (ad 2), .ref (ad 3), .int (gI σ 3), .int (gI σ 4), .int (gI σ 5), .int (gI σ 6), .ref (ad 4), .ref (ad 5), .ref (ad 6), .int (gI σ 7), .ref (ad 7), .int (gI σ 8), .int (gI σ 9), .int (gI σ 10), .ref (ad 18), .ref (ad 8), .ref (ad 9), .ref (ad 10), .long (gJ σ 0), .ref (ad 11), .int (gI σ 11), .int (gI σ 12), .int (gI σ 13), .int (gI σ 14), .int (gI σ 15), .int (gI σ 16), .ref (ad 12), .ref (ad 13), .ref (ad 14), .ref (ad 15), .ref (ad 16), .ref (ad 17), .long (gJ σ 1)] 8 (.int v))) = wM ad cy (pI σ 5 v) := rfl
theorem wM_fI6 (ad : Nat → Nat) (cy : Nat → ClassId) (σ : ST) (v : Int32) : (wM ad cy σ).set 0 (ad 0, .inr (9, List.set [.int (gI σ 0), .int (gI σ 1), .int (gI σ 2), .ref (ad 1), .ref (ad 2), .ref (ad 3), .int (gI σ 3), .int (gI σ 4), .int (gI σ 5), .int (gI σ 6), .ref (ad 4), .ref (ad 5), .ref (ad 6), .int (gI σ 7), .ref (ad 7), .int (gI σ 8), .int (gI σ 9), .int (gI σ 10), .ref (ad 18), .ref (ad 8), .ref (ad 9), .ref (ad 10), .long (gJ σ 0), .ref (ad 11), .int (gI σ 11), .int (gI σ 12), .int (gI σ 13), .int (gI σ 14), .int (gI σ 15), .int (gI σ 16), .ref (ad 12), .ref (ad 13), .ref (ad 14), .ref (ad 15), .ref (ad 16), .ref (ad 17), .long (gJ σ 1)] 9 (.int v))) = wM ad cy (pI σ 6 v) := rfl
theorem wM_fI7 (ad : Nat → Nat) (cy : Nat → ClassId) (σ : ST) (v : Int32) : (wM ad cy σ).set 0 (ad 0, .inr (9, List.set [.int (gI σ 0), .int (gI σ 1), .int (gI σ 2), .ref (ad 1), .ref (ad 2), .ref (ad 3), .int (gI σ 3), .int (gI σ 4), .int (gI σ 5), .int (gI σ 6), .ref (ad 4), .ref (ad 5), .ref (ad 6), .int (gI σ 7), .ref (ad 7), .int (gI σ 8), .int (gI σ 9), .int (gI σ 10), .ref (ad 18), .ref (ad 8), .ref (ad 9), .ref (ad 10), .long (gJ σ 0), .ref (ad 11), .int (gI σ 11), .int (gI σ 12), .int (gI σ 13), .int (gI σ 14), .int (gI σ 15), .int (gI σ 16), .ref (ad 12), .ref (ad 13), .ref (ad 14), .ref (ad 15), .ref (ad 16), .ref (ad 17), .long (gJ σ 1)] 13 (.int v))) = wM ad cy (pI σ 7 v) := rfl
theorem wM_fI8 (ad : Nat → Nat) (cy : Nat → ClassId) (σ : ST) (v : Int32) : (wM ad cy σ).set 0 (ad 0, .inr (9, List.set [.int (gI σ 0), .int (gI σ 1), .int (gI σ 2), .ref (ad 1), .ref (ad 2), .ref (ad 3), .int (gI σ 3), .int (gI σ 4), .int (gI σ 5), .int (gI σ 6), .ref (ad 4), .ref (ad 5), .ref (ad 6), .int (gI σ 7), .ref (ad 7), .int (gI σ 8), .int (gI σ 9), .int (gI σ 10), .ref (ad 18), .ref (ad 8), .ref (ad 9), .ref (ad 10), .long (gJ σ 0), .ref (ad 11), .int (gI σ 11), .int (gI σ 12), .int (gI σ 13), .int (gI σ 14), .int (gI σ 15), .int (gI σ 16), .ref (ad 12), .ref (ad 13), .ref (ad 14), .ref (ad 15), .ref (ad 16), .ref (ad 17), .long (gJ σ 1)] 15 (.int v))) = wM ad cy (pI σ 8 v) := rfl
theorem wM_fI9 (ad : Nat → Nat) (cy : Nat → ClassId) (σ : ST) (v : Int32) : (wM ad cy σ).set 0 (ad 0, .inr (9, List.set [.int (gI σ 0), .int (gI σ 1), .int (gI σ 2), .ref (ad 1), .ref (ad 2), .ref (ad 3), .int (gI σ 3), .int (gI σ 4), .int (gI σ 5), .int (gI σ 6), .ref (ad 4), .ref (ad 5), .ref (ad 6), .int (gI σ 7), .ref (ad 7), .int (gI σ 8), .int (gI σ 9), .int (gI σ 10), .ref (ad 18), .ref (ad 8), .ref (ad 9), .ref (ad 10), .long (gJ σ 0), .ref (ad 11), .int (gI σ 11), .int (gI σ 12), .int (gI σ 13), .int (gI σ 14), .int (gI σ 15), .int (gI σ 16), .ref (ad 12), .ref (ad 13), .ref (ad 14), .ref (ad 15), .ref (ad 16), .ref (ad 17), .long (gJ σ 1)] 16 (.int v))) = wM ad cy (pI σ 9 v) := rfl
theorem wM_fI10 (ad : Nat → Nat) (cy : Nat → ClassId) (σ : ST) (v : Int32) : (wM ad cy σ).set 0 (ad 0, .inr (9, List.set [.int (gI σ 0), .int (gI σ 1), .int (gI σ 2), .ref (ad 1), .ref (ad 2), .ref (ad 3), .int (gI σ 3), .int (gI σ 4), .int (gI σ 5), .int (gI σ 6), .ref (ad 4), .ref (ad 5), .ref (ad 6), .int (gI σ 7), .ref (ad 7), .int (gI σ 8), .int (gI σ 9), .int (gI σ 10), .ref (ad 18), .ref (ad 8), .ref (ad 9), .ref (ad 10), .long (gJ σ 0), .ref (ad 11), .int (gI σ 11), .int (gI σ 12), .int (gI σ 13), .int (gI σ 14), .int (gI σ 15), .int (gI σ 16), .ref (ad 12), .ref (ad 13), .ref (ad 14), .ref (ad 15), .ref (ad 16), .ref (ad 17), .long (gJ σ 1)] 17 (.int v))) = wM ad cy (pI σ 10 v) := rfl
theorem wM_fJ0 (ad : Nat → Nat) (cy : Nat → ClassId) (σ : ST) (v : Int64) : (wM ad cy σ).set 0 (ad 0, .inr (9, List.set [.int (gI σ 0), .int (gI σ 1), .int (gI σ 2), .ref (ad 1), .ref (ad 2), .ref (ad 3), .int (gI σ 3), .int (gI σ 4), .int (gI σ 5), .int (gI σ 6), .ref (ad 4), .ref (ad 5), .ref (ad 6), .int (gI σ 7), .ref (ad 7), .int (gI σ 8), .int (gI σ 9), .int (gI σ 10), .ref (ad 18), .ref (ad 8), .ref (ad 9), .ref (ad 10), .long (gJ σ 0), .ref (ad 11), .int (gI σ 11), .int (gI σ 12), .int (gI σ 13), .int (gI σ 14), .int (gI σ 15), .int (gI σ 16), .ref (ad 12), .ref (ad 13), .ref (ad 14), .ref (ad 15), .ref (ad 16), .ref (ad 17), .long (gJ σ 1)] 22 (.long v))) = wM ad cy (pJ σ 0 v) := rfl
theorem wM_fI11 (ad : Nat → Nat) (cy : Nat → ClassId) (σ : ST) (v : Int32) : (wM ad cy σ).set 0 (ad 0, .inr (9, List.set [.int (gI σ 0), .int (gI σ 1), .int (gI σ 2), .ref (ad 1), .ref (ad 2), .ref (ad 3), .int (gI σ 3), .int (gI σ 4), .int (gI σ 5), .int (gI σ 6), .ref (ad 4), .ref (ad 5), .ref (ad 6), .int (gI σ 7), .ref (ad 7), .int (gI σ 8), .int (gI σ 9), .int (gI σ 10), .ref (ad 18), .ref (ad 8), .ref (ad 9), .ref (ad 10), .long (gJ σ 0), .ref (ad 11), .int (gI σ 11), .int (gI σ 12), .int (gI σ 13), .int (gI σ 14), .int (gI σ 15), .int (gI σ 16), .ref (ad 12), .ref (ad 13), .ref (ad 14), .ref (ad 15), .ref (ad 16), .ref (ad 17), .long (gJ σ 1)] 24 (.int v))) = wM ad cy (pI σ 11 v) := rfl
theorem wM_fI12 (ad : Nat → Nat) (cy : Nat → ClassId) (σ : ST) (v : Int32) : (wM ad cy σ).set 0 (ad 0, .inr (9, List.set [.int (gI σ 0), .int (gI σ 1), .int (gI σ 2), .ref (ad 1), .ref (ad 2), .ref (ad 3), .int (gI σ 3), .int (gI σ 4), .int (gI σ 5), .int (gI σ 6), .ref (ad 4), .ref (ad 5), .ref (ad 6), .int (gI σ 7), .ref (ad 7), .int (gI σ 8), .int (gI σ 9), .int (gI σ 10), .ref (ad 18), .ref (ad 8), .ref (ad 9), .ref (ad 10), .long (gJ σ 0), .ref (ad 11), .int (gI σ 11), .int (gI σ 12), .int (gI σ 13), .int (gI σ 14), .int (gI σ 15), .int (gI σ 16), .ref (ad 12), .ref (ad 13), .ref (ad 14), .ref (ad 15), .ref (ad 16), .ref (ad 17), .long (gJ σ 1)] 25 (.int v))) = wM ad cy (pI σ 12 v) := rfl
theorem wM_fI13 (ad : Nat → Nat) (cy : Nat → ClassId) (σ : ST) (v : Int32) : (wM ad cy σ).set 0 (ad 0, .inr (9, List.set [.int (gI σ 0), .int (gI σ 1), .int (gI σ 2), .ref (ad 1), .ref (ad 2), .ref (ad 3), .int (gI σ 3), .int (gI σ 4), .int (gI σ 5), .int (gI σ 6), .ref (ad 4), .ref (ad 5), .ref (ad 6), .int (gI σ 7), .ref (ad 7), .int (gI σ 8), .int (gI σ 9), .int (gI σ 10), .ref (ad 18), .ref (ad 8), .ref (ad 9), .ref (ad 10), .long (gJ σ 0), .ref (ad 11), .int (gI σ 11), .int (gI σ 12), .int (gI σ 13), .int (gI σ 14), .int (gI σ 15), .int (gI σ 16), .ref (ad 12), .ref (ad 13), .ref (ad 14), .ref (ad 15), .ref (ad 16), .ref (ad 17), .long (gJ σ 1)] 26 (.int v))) = wM ad cy (pI σ 13 v) := rfl
theorem wM_fI14 (ad : Nat → Nat) (cy : Nat → ClassId) (σ : ST) (v : Int32) : (wM ad cy σ).set 0 (ad 0, .inr (9, List.set [.int (gI σ 0), .int (gI σ 1), .int (gI σ 2), .ref (ad 1), .ref (ad 2), .ref (ad 3), .int (gI σ 3), .int (gI σ 4), .int (gI σ 5), .int (gI σ 6), .ref (ad 4), .ref (ad 5), .ref (ad 6), .int (gI σ 7), .ref (ad 7), .int (gI σ 8), .int (gI σ 9), .int (gI σ 10), .ref (ad 18), .ref (ad 8), .ref (ad 9), .ref (ad 10), .long (gJ σ 0), .ref (ad 11), .int (gI σ 11), .int (gI σ 12), .int (gI σ 13), .int (gI σ 14), .int (gI σ 15), .int (gI σ 16), .ref (ad 12), .ref (ad 13), .ref (ad 14), .ref (ad 15), .ref (ad 16), .ref (ad 17), .long (gJ σ 1)] 27 (.int v))) = wM ad cy (pI σ 14 v) := rfl
theorem wM_fI15 (ad : Nat → Nat) (cy : Nat → ClassId) (σ : ST) (v : Int32) : (wM ad cy σ).set 0 (ad 0, .inr (9, List.set [.int (gI σ 0), .int (gI σ 1), .int (gI σ 2), .ref (ad 1), .ref (ad 2), .ref (ad 3), .int (gI σ 3), .int (gI σ 4), .int (gI σ 5), .int (gI σ 6), .ref (ad 4), .ref (ad 5), .ref (ad 6), .int (gI σ 7), .ref (ad 7), .int (gI σ 8), .int (gI σ 9), .int (gI σ 10), .ref (ad 18), .ref (ad 8), .ref (ad 9), .ref (ad 10), .long (gJ σ 0), .ref (ad 11), .int (gI σ 11), .int (gI σ 12), .int (gI σ 13), .int (gI σ 14), .int (gI σ 15), .int (gI σ 16), .ref (ad 12), .ref (ad 13), .ref (ad 14), .ref (ad 15), .ref (ad 16), .ref (ad 17), .long (gJ σ 1)] 28 (.int v))) = wM ad cy (pI σ 15 v) := rfl
theorem wM_fI16 (ad : Nat → Nat) (cy : Nat → ClassId) (σ : ST) (v : Int32) : (wM ad cy σ).set 0 (ad 0, .inr (9, List.set [.int (gI σ 0), .int (gI σ 1), .int (gI σ 2), .ref (ad 1), .ref (ad 2), .ref (ad 3), .int (gI σ 3), .int (gI σ 4), .int (gI σ 5), .int (gI σ 6), .ref (ad 4), .ref (ad 5), .ref (ad 6), .int (gI σ 7), .ref (ad 7), .int (gI σ 8), .int (gI σ 9), .int (gI σ 10), .ref (ad 18), .ref (ad 8), .ref (ad 9), .ref (ad 10), .long (gJ σ 0), .ref (ad 11), .int (gI σ 11), .int (gI σ 12), .int (gI σ 13), .int (gI σ 14), .int (gI σ 15), .int (gI σ 16), .ref (ad 12), .ref (ad 13), .ref (ad 14), .ref (ad 15), .ref (ad 16), .ref (ad 17), .long (gJ σ 1)] 29 (.int v))) = wM ad cy (pI σ 16 v) := rfl
theorem wM_fJ1 (ad : Nat → Nat) (cy : Nat → ClassId) (σ : ST) (v : Int64) : (wM ad cy σ).set 0 (ad 0, .inr (9, List.set [.int (gI σ 0), .int (gI σ 1), .int (gI σ 2), .ref (ad 1), .ref (ad 2), .ref (ad 3), .int (gI σ 3), .int (gI σ 4), .int (gI σ 5), .int (gI σ 6), .ref (ad 4), .ref (ad 5), .ref (ad 6), .int (gI σ 7), .ref (ad 7), .int (gI σ 8), .int (gI σ 9), .int (gI σ 10), .ref (ad 18), .ref (ad 8), .ref (ad 9), .ref (ad 10), .long (gJ σ 0), .ref (ad 11), .int (gI σ 11), .int (gI σ 12), .int (gI σ 13), .int (gI σ 14), .int (gI σ 15), .int (gI σ 16), .ref (ad 12), .ref (ad 13), .ref (ad 14), .ref (ad 15), .ref (ad 16), .ref (ad 17), .long (gJ σ 1)] 36 (.long v))) = wM ad cy (pJ σ 1 v) := rfl
theorem wM_aI0 (ad : Nat → Nat) (cy : Nat → ClassId) (σ : ST) (i : Nat) (v : Int32) : (wM ad cy σ).set 1 (ad 1, .inl (cy 0, 4, .inl (upd (gA σ 0) i v))) = wM ad cy (pA σ 0 i v) := rfl
theorem wM_aI1 (ad : Nat → Nat) (cy : Nat → ClassId) (σ : ST) (i : Nat) (v : Int32) : (wM ad cy σ).set 2 (ad 2, .inl (cy 0, 4, .inl (upd (gA σ 1) i v))) = wM ad cy (pA σ 1 i v) := rfl
theorem wM_aI2 (ad : Nat → Nat) (cy : Nat → ClassId) (σ : ST) (i : Nat) (v : Int32) : (wM ad cy σ).set 3 (ad 3, .inl (cy 0, 4, .inl (upd (gA σ 2) i v))) = wM ad cy (pA σ 2 i v) := rfl
theorem wM_aI3 (ad : Nat → Nat) (cy : Nat → ClassId) (σ : ST) (i : Nat) (v : Int32) : (wM ad cy σ).set 4 (ad 4, .inl (cy 0, 6, .inl (upd (gA σ 3) i v))) = wM ad cy (pA σ 3 i v) := rfl
theorem wM_aI4 (ad : Nat → Nat) (cy : Nat → ClassId) (σ : ST) (i : Nat) (v : Int32) : (wM ad cy σ).set 5 (ad 5, .inl (cy 0, 6, .inl (upd (gA σ 4) i v))) = wM ad cy (pA σ 4 i v) := rfl
theorem wM_aI5 (ad : Nat → Nat) (cy : Nat → ClassId) (σ : ST) (i : Nat) (v : Int32) : (wM ad cy σ).set 6 (ad 6, .inl (cy 0, 6, .inl (upd (gA σ 5) i v))) = wM ad cy (pA σ 5 i v) := rfl
theorem wM_aI6 (ad : Nat → Nat) (cy : Nat → ClassId) (σ : ST) (i : Nat) (v : Int32) : (wM ad cy σ).set 7 (ad 7, .inl (cy 4, 28, .inl (upd (gA σ 6) i v))) = wM ad cy (pA σ 6 i v) := rfl
theorem wM_aI7 (ad : Nat → Nat) (cy : Nat → ClassId) (σ : ST) (i : Nat) (v : Int32) : (wM ad cy σ).set 8 (ad 8, .inl (cy 0, 16, .inl (upd (gA σ 7) i v))) = wM ad cy (pA σ 7 i v) := rfl
theorem wM_aI8 (ad : Nat → Nat) (cy : Nat → ClassId) (σ : ST) (i : Nat) (v : Int32) : (wM ad cy σ).set 9 (ad 9, .inl (cy 0, 16, .inl (upd (gA σ 8) i v))) = wM ad cy (pA σ 8 i v) := rfl
theorem wM_aI9 (ad : Nat → Nat) (cy : Nat → ClassId) (σ : ST) (i : Nat) (v : Int32) : (wM ad cy σ).set 10 (ad 10, .inl (cy 0, 16, .inl (upd (gA σ 9) i v))) = wM ad cy (pA σ 9 i v) := rfl
theorem wM_aI10 (ad : Nat → Nat) (cy : Nat → ClassId) (σ : ST) (i : Nat) (v : Int32) : (wM ad cy σ).set 11 (ad 11, .inl (cy 0, 4, .inl (upd (gA σ 10) i v))) = wM ad cy (pA σ 10 i v) := rfl
theorem wM_aI11 (ad : Nat → Nat) (cy : Nat → ClassId) (σ : ST) (i : Nat) (v : Int32) : (wM ad cy σ).set 12 (ad 12, .inl (cy 0, 4, .inl (upd (gA σ 11) i v))) = wM ad cy (pA σ 11 i v) := rfl
theorem wM_aI12 (ad : Nat → Nat) (cy : Nat → ClassId) (σ : ST) (i : Nat) (v : Int32) : (wM ad cy σ).set 13 (ad 13, .inl (cy 0, 4, .inl (upd (gA σ 12) i v))) = wM ad cy (pA σ 12 i v) := rfl
theorem wM_aI13 (ad : Nat → Nat) (cy : Nat → ClassId) (σ : ST) (i : Nat) (v : Int32) : (wM ad cy σ).set 14 (ad 14, .inl (cy 0, 4, .inl (upd (gA σ 13) i v))) = wM ad cy (pA σ 13 i v) := rfl
theorem wM_aI14 (ad : Nat → Nat) (cy : Nat → ClassId) (σ : ST) (i : Nat) (v : Int32) : (wM ad cy σ).set 15 (ad 15, .inl (cy 0, 6, .inl (upd (gA σ 14) i v))) = wM ad cy (pA σ 14 i v) := rfl
theorem wM_aI15 (ad : Nat → Nat) (cy : Nat → ClassId) (σ : ST) (i : Nat) (v : Int32) : (wM ad cy σ).set 16 (ad 16, .inl (cy 0, 6, .inl (upd (gA σ 15) i v))) = wM ad cy (pA σ 15 i v) := rfl
theorem wM_aI16 (ad : Nat → Nat) (cy : Nat → ClassId) (σ : ST) (i : Nat) (v : Int32) : (wM ad cy σ).set 17 (ad 17, .inl (cy 0, 6, .inl (upd (gA σ 16) i v))) = wM ad cy (pA σ 16 i v) := rfl
theorem wM_aJ0 (ad : Nat → Nat) (cy : Nat → ClassId) (σ : ST) (i : Nat) (v : Int64) : (wM ad cy σ).set 18 (ad 18, .inl (cy 3, 72, .inr (.inl (vp_updL (gB σ 0) i v)))) = wM ad cy (pB σ 0 i v) := rfl
theorem inX1 : ∀ w ∈ u_ws RX1 TX1 10, w ∈ lw_tbl ∧ keepW w = true := in_of (by decide +kernel)
theorem inX5 : ∀ w ∈ u_ws RX5 TX5 2, w ∈ lw_tbl ∧ keepW w = true := in_of (by decide +kernel)
theorem inX7 : ∀ w ∈ u_ws RX7 TX7 3, w ∈ lw_tbl ∧ keepW w = true := in_of (by decide +kernel)
theorem inX8 : ∀ w ∈ u_ws RX8 TX8 12, w ∈ lw_tbl ∧ keepW w = true := in_of (by decide +kernel)
theorem inX9 : ∀ w ∈ u_ws RX9 TX9 37, w ∈ lw_tbl ∧ keepW w = true := in_of (by decide +kernel)
theorem nar_okC {v : Int32} (h : vp_nar .char v = v) : narrow .char (.int v) = .int v := by
  have e : narrow .char (.int v) = .int (vp_nar .char v) := rfl
  rw [e, h]
theorem nar_okZ {v : Int32} (h : vp_nar .boolean v = v) : narrow .boolean (.int v) = .int v := by
  have e : narrow .boolean (.int v) = .int (vp_nar .boolean v) := rfl
  rw [e, h]
theorem wT_row (ad : Nat → Nat) (cy : Nat → ClassId) (σ : ST) {k : Nat} (hk : k < 6) : (wT ad cy σ)[20 + k]? = some (ad (20 + k), .inl (cy 3, 7, .inr (.inl (gB σ k)))) := by
  match k, hk with
  | 0, _ => rfl
  | 1, _ => rfl
  | 2, _ => rfl
  | 3, _ => rfl
  | 4, _ => rfl
  | 5, _ => rfl
theorem wT_set (ad : Nat → Nat) (cy : Nat → ClassId) (σ : ST) {k : Nat} (hk : k < 6) (i : Nat) (v : Int64) : (wT ad cy σ).set (20 + k) (ad (20 + k), .inl (cy 3, 7, .inr (.inl (vp_updL (gB σ k) i v)))) = wT ad cy (pB σ k i v) := by
  match k, hk with
  | 0, _ => rfl
  | 1, _ => rfl
  | 2, _ => rfl
  | 3, _ => rfl
  | 4, _ => rfl
  | 5, _ => rfl
section GR2
variable {x : CX} {cy : Nat → ClassId} {cc : ByteArray} {own : String} {nL fr lo cs sl pc : Nat} {lv : List (Nat × Value)} {st : List Value} {ws : va_W}
theorem G.tableAt (E : Ev x cy cc own nL fr lo) {dflt lw hg : Int} {offs : Array Int} {len : Nat} {a n : Int32} {off : Int} {tgt : Nat} (hc : a = n) (d : decode cc pc = .ok (.tableswitch dflt lw hg offs, len)) (h1 : ¬ n.toInt < lw) (h2 : ¬ hg < n.toInt) (ho : offs[(n.toInt - lw).toNat]? = some off) (ht : (pc : Int) + off = (tgt : Int)) (k : G x cs sl tgt lv st ws) : G x cs sl pc lv (.int a :: st) ws := by
  subst hc
  exact G.tableIn E d h1 h2 ho ht k
theorem G.mmax (E : Ev x cy cc own nL fr lo) {index : Nat} {a b : Int32} (w1 : va_Nw (.methodLink own index Lib.Math.max.name) (xS x)) (w2 : va_Nw (.static Lib.Math.max.name) (xS x)) (w3 : va_Nw (.initialized "java/lang/Math") (xS x)) (w4 : va_Nw (.code Lib.Math.max.name Lib.Math.max.code 2 (some .int)) (xS x)) (hfr : 1 ≤ fr) (hlo : 32 ≤ lo) (hst : cs = 0 ∧ sl = 0) (hW : (st.map fun v => v.category).sum ≤ 8) (d : decode cc pc = .ok (.invokestatic index, 3)) (kk : G x cs sl (pc + 3) lv (.int (if a < b then b else a) :: st) ws) : G x cs sl pc lv (.int b :: .int a :: st) ws := fun H locs ls hP hD hS hl => by
  obtain ⟨rfl, rfl⟩ := hst
  have h1 := E.2.2.2.2.2.2.2.2.1
  have h2 := E.2.2.2.2.2.2.2.2.2
  exact va_mmax E.1 E.2.1 hl.1.symm E.2.2.2.1 (nw_use w1 rfl) (nw_use w2 rfl) (nw_use w3 rfl) (nw_use w4 rfl) (Nat.le_trans hfr h1) (Nat.le_trans (by omega) h2) (Nat.zero_le _) (Nat.zero_le _) d (kk H locs ls hP hD hS hl)
theorem G.copyi (E : Ev x cy cc own nL fr lo) {index a0 a n0 n1 : Nat} {f g : Nat → Int32} {sp dp n : Int32} {ws' : va_W} (w1 : va_Nw (.methodLink own index arraycopyName) (xS x)) (w2 : va_Nw (.native arraycopyName) (xS x)) (w3 : va_Nw (.static arraycopyName) (xS x)) (w4 : va_Nw (.initialized "java/lang/System") (xS x)) (q0 q1 : Nat) (ha0 : ws[q0]? = some (a0, .inl (cy 0, n0, .inl f))) (ha1 : ws[q1]? = some (a, .inl (cy 0, n1, .inl g))) (h1 : ¬ sp < 0) (h2 : ¬ dp < 0) (h3 : ¬ n < 0) (h4 : sp.toNatClampNeg + n.toNatClampNeg ≤ n0) (h5 : dp.toNatClampNeg + n.toNatClampNeg ≤ n1) (hfr : 1 ≤ fr) (hlo : 8 + (nativeFrameWords "java/lang/System" "arraycopy" 5 + 11) ≤ lo) (hW : (st.map fun v => v.category).sum ≤ 8) (d : decode cc pc = .ok (.invokestatic index, 3)) (hw : ws.set q1 (a, .inl (cy 0, n1, .inl (va_cpy f g sp.toNatClampNeg dp.toNatClampNeg n.toNatClampNeg))) = ws') (kk : G x cs sl (pc + 3) lv st ws') : G x cs sl pc lv (.int n :: .int dp :: .ref a :: .int sp :: .ref a0 :: st) ws := fun H locs ls hP hD hS hl => by
  have e1 := E.2.2.2.2.2.2.2.2.1
  have e2 := E.2.2.2.2.2.2.2.2.2
  exact va_copyi E.1 E.2.1 hl.1.symm E.2.2.2.1 (nw_use w1 rfl) (nw_use w2 rfl) (nw_use w3 rfl) (nw_use w4 rfl) E.k hP hD hS q0 q1 0 0 ha0 ha1 rfl rfl rfl h1 h2 h3 h4 h5 (fun _ _ => rfl) (Nat.le_trans hfr e1) (Nat.le_trans (by omega) e2) d (fun H1 locs1 hP1 hD1 hS1 => kk H1 locs1 ls (hw ▸ hP1) (hw ▸ hD1) hS1 hl)
theorem G.ldcw (E : Ev x cy cc own nL fr lo) {index : Nat} {v : Int32} (w : va_Nw (.constant own index v) (xS x)) (d : decode cc pc = .ok (.ldc_w index, 3)) (k : G x cs sl (pc + 3) lv (.int v :: st) ws) : G x cs sl pc lv st ws := fun H locs ls hP hD hS hl => lv_ldcw E.1 E.2.1 E.2.2.2.1 (nw_use w rfl) d (k H locs ls hP hD hS hl)
end GR2
