/-! the first state -/
def s0I : Nat → Nat → Int32 := fun o => bif Nat.beq o 4 then fMin4 else bif Nat.beq o 168 then fMin4 else bif Nat.beq o 0 then (fun k => bif Nat.beq k 13 then -1 else bif Nat.beq k 14 then -1 else 0) else bif Nat.beq o 166 then (fun k => bif Nat.beq k 10 then -1 else bif Nat.beq k 11 then -1 else 0) else fun _ => 0
def s0L : Nat → Nat → Int64 := fun o => bif Nat.beq o 8 then kF 133 else bif Nat.beq o 0 then (fun k => bif Nat.beq k 12 then 1 else 0) else bif Nat.beq o 166 then (fun k => bif Nat.beq k 3 then 1 else 0) else fun _ => 0
def mFirst : mSt := (s0I, s0L)
theorem inv0_town : isTown mFirst 10 (mFirst.1 171) (mFirst.2 173) := by
  refine ⟨0, 0, 0, 0, 0, ⟨by decide, by decide, by decide, by decide, by decide⟩, ⟨rfl, rfl⟩, ⟨rfl, rfl⟩, ⟨rfl, rfl⟩, ⟨rfl, rfl⟩, ⟨rfl, rfl⟩, ⟨rfl, 0, by decide, rfl⟩, fun p h => absurd h (Nat.not_lt_zero p), fun p h => absurd h (Nat.not_lt_zero p), fun p h => absurd h (Nat.not_lt_zero p), ⟨0, by decide, rfl⟩, fun p h => absurd h (Nat.not_lt_zero p), ⟨⟨fun p h => absurd h (Nat.not_lt_zero p), fun _ _ _ => rfl⟩, ⟨fun p h => absurd h (Nat.not_lt_zero p), fun _ _ _ => rfl⟩, ⟨fun p h => absurd h (Nat.not_lt_zero p), fun _ _ _ => rfl⟩⟩, rfl, Or.inl rfl⟩
theorem inv0_tr : RTr mFirst := by
  refine ⟨rfl, rfl, rfl, fun k hk => Or.inl ?_⟩
  rcases (show k = 0 ∨ k = 1 ∨ k = 2 ∨ k = 3 by omega) with rfl | rfl | rfl | rfl <;> rfl
theorem inv0_bo : RBo mFirst := fun t ht k => by
  left
  rcases ht with rfl | rfl | rfl | rfl | rfl <;> rfl
theorem inv0 : Inv mFirst := by
  refine ⟨rfl, ⟨rfl, rfl⟩, ⟨rfl, rfl⟩, ⟨rfl, rfl, fun k => ⟨show -128 ≤ (0 : Int32).toInt by decide, show (0 : Int32).toInt ≤ 127 by decide⟩, 0, by decide, rfl⟩, ⟨rfl, rfl, inv0_bo⟩, inv0_tr, ⟨0, by decide, rfl, rfl, fun i h => absurd h (Nat.not_lt_zero i)⟩, ⟨rfl, Or.inl rfl⟩, ⟨0, by decide, rfl, rfl, fun i h => absurd h (Nat.not_lt_zero i)⟩, fun k hk => ?_, inv0_town⟩
  exact kF_all ⟨k, hk⟩
def mIx {α β : Type} (f : Nat → α → β) : Nat → List α → List β
  | _, [] => []
  | k, a :: l => f k a :: mIx f (k + 1) l
theorem mIx_eq {α β : Type} : ∀ (l : List α) (f : Nat → α → β) (k : Nat), l.mapIdx (fun i => f (k + i)) = mIx f k l
  | [], _, _ => rfl
  | a :: l, f, k => by
    rw [List.mapIdx_cons, mIx, ← mIx_eq l f (k + 1)]
    simp only [Nat.add_zero, List.cons.injEq, true_and]
    congr 1
    funext i
    rw [Nat.add_assoc, Nat.add_comm 1 i]
theorem mIx_app {α β : Type} (f : Nat → α → β) : ∀ (a b : List α) (k : Nat), mIx f k (a ++ b) = mIx f k a ++ mIx f (k + a.length) b
  | [], b, k => rfl
  | x :: a, b, k => by
    show f k x :: mIx f (k + 1) (a ++ b) = f k x :: (mIx f (k + 1) a ++ mIx f (k + (a.length + 1)) b)
    rw [mIx_app f a b (k + 1), Nat.add_assoc, Nat.add_comm 1]
theorem mCellO {ad : Nat → Nat} {cA : Nat → ClassId} {σ : mSt} {k c : Nat} {l : List Nat} : mCell ad cA σ k (5, c, l) = .inr (c, mIx (fun j e => mFld ad σ k j e) 0 l) := by
  rw [← mIx_eq]
  simp only [Nat.zero_add]
  rfl
def cel (ad : Nat → Nat) (cA : Nat → ClassId) : Nat → mSh → Nat × va_E := fun k sh => (ad k, mCell ad cA mFirst k sh)
def shp1 : List mSh := [(5, 9, [4, 5, 6]), (3, 240, []), (0, 4, []), (0, 4, [])]
theorem len1 : shp1.length = 4 := rfl
theorem cel1 (ad : Nat → Nat) (cA : Nat → ClassId) : mIx (cel ad cA) 1 shp1 = blkTr (shN ad 1) (shN cA 1) := by
  simp only [shp1, mIx, cel, mCellO, blkTr, List.nil_append, List.cons_append, List.append_assoc]
  rfl
def shp5 : List mSh := [(5, 6, [8, 11]), (5, 7, [9, 10, 0, 0, 0, 0, 0, 0, 1, 0, 0]), (1, 900, []), (3, 28, []), (0, 5, [])]
theorem len5 : shp5.length = 5 := rfl
theorem cel5 (ad : Nat → Nat) (cA : Nat → ClassId) : mIx (cel ad cA) 5 shp5 = blkTe (shN ad 5) (shN cA 5) := by
  simp only [shp5, mIx, cel, mCellO, blkTe, blkTo, List.nil_append, List.cons_append, List.append_assoc]
  rfl
def shp10 : List mSh := [(5, 8, [13, 15, 24, 27, 28, 29, 30, 31, 32, 33, 34, 35, 36, 0, 0, 0, 0, 0, 0]), (5, 2, [14]), (3, 20, []), (5, 4, [16, 17, 18, 19, 20, 21, 22, 23, 0]), (0, 40, []), (0, 40, []), (0, 40, []), (0, 40, []), (0, 40, []), (2, 40, []), (0, 40, []), (0, 8, []), (5, 0, [25, 26, 0, 0, 0, 0]), (0, 420, []), (0, 3, []), (0, 8, []), (0, 8, []), (0, 8, []), (0, 4, []), (0, 8, []), (0, 8, []), (0, 8, []), (0, 8, []), (0, 8, []), (0, 8, [])]
theorem len10 : shp10.length = 25 := rfl
theorem cel10 (ad : Nat → Nat) (cA : Nat → ClassId) : mIx (cel ad cA) 10 shp10 = blkTw (shN ad 10) (shN cA 10) := by
  simp only [shp10, mIx, cel, mCellO, blkTw, blkNa, blkPr, blkDa, List.nil_append, List.cons_append, List.append_assoc]
  rfl
def shp35 : List mSh := [(5, 8, [38, 40, 49, 52, 53, 54, 55, 56, 57, 58, 59, 60, 61, 0, 0, 0, 0, 0, 0]), (5, 2, [39]), (3, 20, []), (5, 4, [41, 42, 43, 44, 45, 46, 47, 48, 0]), (0, 40, []), (0, 40, []), (0, 40, []), (0, 40, []), (0, 40, []), (2, 40, []), (0, 40, []), (0, 8, []), (5, 0, [50, 51, 0, 0, 0, 0]), (0, 420, []), (0, 3, []), (0, 8, []), (0, 8, []), (0, 8, []), (0, 4, []), (0, 8, []), (0, 8, []), (0, 8, []), (0, 8, []), (0, 8, []), (0, 8, [])]
theorem len35 : shp35.length = 25 := rfl
theorem cel35 (ad : Nat → Nat) (cA : Nat → ClassId) : mIx (cel ad cA) 35 shp35 = blkTw (shN ad 35) (shN cA 35) := by
  simp only [shp35, mIx, cel, mCellO, blkTw, blkNa, blkPr, blkDa, List.nil_append, List.cons_append, List.append_assoc]
  rfl
def shp60 : List mSh := [(4, 3, [91, 116, 141])]
theorem len60 : shp60.length = 1 := rfl
theorem cel60 (ad : Nat → Nat) (cA : Nat → ClassId) : mIx (cel ad cA) 60 shp60 = [(ad 60, .inl (cA 60, 3, .inr (.inr (.inr (.inr (fun j => (([91, 116, 141] : List Nat)[j]?).map ad))))))] := rfl
def shp61 : List mSh := [(5, 5, [64, 65, 66, 67, 68, 69, 0]), (0, 8, []), (0, 8, []), (0, 8, []), (0, 8, []), (0, 8, []), (0, 8, [])]
theorem len61 : shp61.length = 7 := rfl
theorem cel61 (ad : Nat → Nat) (cA : Nat → ClassId) : mIx (cel ad cA) 61 shp61 = blkSh (shN ad 61) (shN cA 61) := by
  simp only [shp61, mIx, cel, mCellO, blkSh, List.nil_append, List.cons_append, List.append_assoc]
  rfl
def shp68 : List mSh := [(5, 3, [71, 72, 73, 74, 0]), (0, 256, []), (0, 256, []), (0, 64, []), (0, 8, [])]
theorem len68 : shp68.length = 5 := rfl
theorem cel68 (ad : Nat → Nat) (cA : Nat → ClassId) : mIx (cel ad cA) 68 shp68 = blkNe (shN ad 68) (shN cA 68) := by
  simp only [shp68, mIx, cel, mCellO, blkNe, List.nil_append, List.cons_append, List.append_assoc]
  rfl
def shp73 : List mSh := [(5, 1, [76, 83, 0, 0, 0, 0, 0, 0, 0]), (5, 5, [77, 78, 79, 80, 81, 82, 0]), (0, 8, []), (0, 8, []), (0, 8, []), (0, 8, []), (0, 8, []), (0, 8, []), (0, 60, [])]
theorem len73 : shp73.length = 9 := rfl
theorem cel73 (ad : Nat → Nat) (cA : Nat → ClassId) : mIx (cel ad cA) 73 shp73 = blkLi (shN ad 73) (shN cA 73) := by
  simp only [shp73, mIx, cel, mCellO, blkLi, blkSh, List.nil_append, List.cons_append, List.append_assoc]
  rfl
def shp82 : List mSh := [(5, 1, [85, 92, 0, 0, 0, 0, 0, 0, 0]), (5, 5, [86, 87, 88, 89, 90, 91, 0]), (0, 8, []), (0, 8, []), (0, 8, []), (0, 8, []), (0, 8, []), (0, 8, []), (0, 60, [])]
theorem len82 : shp82.length = 9 := rfl
theorem cel82 (ad : Nat → Nat) (cA : Nat → ClassId) : mIx (cel ad cA) 82 shp82 = blkLi (shN ad 82) (shN cA 82) := by
  simp only [shp82, mIx, cel, mCellO, blkLi, blkSh, List.nil_append, List.cons_append, List.append_assoc]
  rfl
def shp91 : List mSh := [(5, 8, [94, 96, 105, 108, 109, 110, 111, 112, 113, 114, 115, 116, 117, 0, 0, 0, 0, 0, 0]), (5, 2, [95]), (3, 20, []), (5, 4, [97, 98, 99, 100, 101, 102, 103, 104, 0]), (0, 40, []), (0, 40, []), (0, 40, []), (0, 40, []), (0, 40, []), (2, 40, []), (0, 40, []), (0, 8, []), (5, 0, [106, 107, 0, 0, 0, 0]), (0, 420, []), (0, 3, []), (0, 8, []), (0, 8, []), (0, 8, []), (0, 4, []), (0, 8, []), (0, 8, []), (0, 8, []), (0, 8, []), (0, 8, []), (0, 8, [])]
theorem len91 : shp91.length = 25 := rfl
theorem cel91 (ad : Nat → Nat) (cA : Nat → ClassId) : mIx (cel ad cA) 91 shp91 = blkTw (shN ad 91) (shN cA 91) := by
  simp only [shp91, mIx, cel, mCellO, blkTw, blkNa, blkPr, blkDa, List.nil_append, List.cons_append, List.append_assoc]
  rfl
def shp116 : List mSh := [(5, 8, [119, 121, 130, 133, 134, 135, 136, 137, 138, 139, 140, 141, 142, 0, 0, 0, 0, 0, 0]), (5, 2, [120]), (3, 20, []), (5, 4, [122, 123, 124, 125, 126, 127, 128, 129, 0]), (0, 40, []), (0, 40, []), (0, 40, []), (0, 40, []), (0, 40, []), (2, 40, []), (0, 40, []), (0, 8, []), (5, 0, [131, 132, 0, 0, 0, 0]), (0, 420, []), (0, 3, []), (0, 8, []), (0, 8, []), (0, 8, []), (0, 4, []), (0, 8, []), (0, 8, []), (0, 8, []), (0, 8, []), (0, 8, []), (0, 8, [])]
theorem len116 : shp116.length = 25 := rfl
theorem cel116 (ad : Nat → Nat) (cA : Nat → ClassId) : mIx (cel ad cA) 116 shp116 = blkTw (shN ad 116) (shN cA 116) := by
  simp only [shp116, mIx, cel, mCellO, blkTw, blkNa, blkPr, blkDa, List.nil_append, List.cons_append, List.append_assoc]
  rfl
def shp141 : List mSh := [(5, 8, [144, 146, 155, 158, 159, 160, 161, 162, 163, 164, 165, 166, 167, 0, 0, 0, 0, 0, 0]), (5, 2, [145]), (3, 20, []), (5, 4, [147, 148, 149, 150, 151, 152, 153, 154, 0]), (0, 40, []), (0, 40, []), (0, 40, []), (0, 40, []), (0, 40, []), (2, 40, []), (0, 40, []), (0, 8, []), (5, 0, [156, 157, 0, 0, 0, 0]), (0, 420, []), (0, 3, []), (0, 8, []), (0, 8, []), (0, 8, []), (0, 4, []), (0, 8, []), (0, 8, []), (0, 8, []), (0, 8, []), (0, 8, []), (0, 8, [])]
theorem len141 : shp141.length = 25 := rfl
theorem cel141 (ad : Nat → Nat) (cA : Nat → ClassId) : mIx (cel ad cA) 141 shp141 = blkTw (shN ad 141) (shN cA 141) := by
  simp only [shp141, mIx, cel, mCellO, blkTw, blkNa, blkPr, blkDa, List.nil_append, List.cons_append, List.append_assoc]
  rfl
def shp166 : List mSh := [(5, 11, [0, 0, 1, 1, 169, 170, 171, 172, 0, 0, 0, 0, 0, 0, 0, 0, 0, 0, 0, 1, 173, 174, 175, 0, 0, 176, 177, 178, 0, 179, 180, 181, 182, 0, 183, 184, 185, 0, 0, 0, 0, 0, 0, 0, 0, 0]), (0, 4, []), (0, 4, []), (3, 240, []), (1, 900, []), (0, 3000, []), (0, 322, []), (3, 100, []), (0, 40, []), (0, 8, []), (0, 8, []), (0, 256, []), (0, 256, []), (0, 8, []), (0, 8, []), (0, 42, []), (0, 42, []), (0, 5, [])]
theorem len166 : shp166.length = 18 := rfl
theorem cel166 (ad : Nat → Nat) (cA : Nat → ClassId) : mIx (cel ad cA) 166 shp166 = blkMo (shN ad 166) (shN cA 166) := by
  simp only [shp166, mIx, cel, mCellO, blkMo, List.nil_append, List.cons_append, List.append_assoc]
  rfl
set_option maxRecDepth 100000 in
theorem mS0_split : mS0 = ((5, 10, [3, 7, 12, 37, 62, 63, 70, 75, 84, 0, 0, 1, 1, 0, 0, 0]) :: (([] : List mSh) ++ shp1 ++ shp5 ++ shp10 ++ shp35 ++ shp60 ++ shp61 ++ shp68 ++ shp73 ++ shp82 ++ shp91 ++ shp116 ++ shp141)) ++ shp166 := by decide +kernel
theorem mWs0 (ad : Nat → Nat) (cA : Nat → ClassId) : mWs ad cA mFirst = blkPb ad cA ++ blkMo (shN ad 166) (shN cA 166) := by
  have e : mWs ad cA mFirst = mIx (cel ad cA) 0 mS0 := by
    rw [← mIx_eq]
    simp only [Nat.zero_add]
    rfl
  rw [e, mS0_split, mIx_app]
  rw [mIx]
  simp only [mIx_app, mIx, List.length_append, List.length_cons, List.length_nil, len1, len5, len10, len35, len60, len61, len68, len73, len82, len91, len116, len141, Nat.reduceAdd, cel1, cel5, cel10, cel35, cel60, cel61, cel68, cel73, cel82, cel91, cel116, cel141, cel166]
  rfl
