-- the reference: place 0: 2 savedCount, 4 length, 5 count, 8 kernelCount, 10 readRows, 14 fiberCount, 19 queued; rows: 1 now, 2 saved, 3 text, 4 basis, 5 kernel, 6 z, 7 readMany, 8 readDigit, 9 fiber, 10 goal, 11 y, 12 far, 13 queue, 14 rest
def NM (M : Int → Int) (F : FE) : Prop := (∀ j, 0 ≤ j ∧ j < 8 → F 1 (2 + j) = M j) ∧ ∀ j, 0 ≤ M j ∧ M j ≤ 3
def c4 (u v : Int → Int) (k : Nat) : Prop := ∀ i : Int, 0 ≤ i ∧ i < k → c1 (u i) (v i)
