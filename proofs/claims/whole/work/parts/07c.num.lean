theorem W0_11 {p : Int32} {s : Sg} : mX8_within p 0 11 s = some ((if btw p 0 11 then 1 else 0), s) := within_if
theorem M0_11 {p : Int32} {s : Sg} : mX9_in (Int32.toInt64 p) 0 11 s = some ((if btw p 0 11 then 1 else 0), s) := by
  rw [in_if]
  have h : (Int32.toInt64 p).toInt = p.toInt := Int32.toInt_toInt64 p
  rw [h]
  rfl
theorem Wm300_300 {p : Int32} {s : Sg} : mX8_within p (-300) 300 s = some ((if btw p (-300) 300 then 1 else 0), s) := within_if
theorem Mm300_300 {p : Int32} {s : Sg} : mX9_in (Int32.toInt64 p) (-300) 300 s = some ((if btw p (-300) 300 then 1 else 0), s) := by
  rw [in_if]
  have h : (Int32.toInt64 p).toInt = p.toInt := Int32.toInt_toInt64 p
  rw [h]
  rfl
theorem W0_1 {p : Int32} {s : Sg} : mX8_within p 0 1 s = some ((if btw p 0 1 then 1 else 0), s) := within_if
theorem M0_1 {p : Int32} {s : Sg} : mX9_in (Int32.toInt64 p) 0 1 s = some ((if btw p 0 1 then 1 else 0), s) := by
  rw [in_if]
  have h : (Int32.toInt64 p).toInt = p.toInt := Int32.toInt_toInt64 p
  rw [h]
  rfl
theorem W0_2 {p : Int32} {s : Sg} : mX8_within p 0 2 s = some ((if btw p 0 2 then 1 else 0), s) := within_if
theorem M0_2 {p : Int32} {s : Sg} : mX9_in (Int32.toInt64 p) 0 2 s = some ((if btw p 0 2 then 1 else 0), s) := by
  rw [in_if]
  have h : (Int32.toInt64 p).toInt = p.toInt := Int32.toInt_toInt64 p
  rw [h]
  rfl
theorem W40_200 {p : Int32} {s : Sg} : mX8_within p 40 200 s = some ((if btw p 40 200 then 1 else 0), s) := within_if
theorem M40_200 {p : Int32} {s : Sg} : mX9_in (Int32.toInt64 p) 40 200 s = some ((if btw p 40 200 then 1 else 0), s) := by
  rw [in_if]
  have h : (Int32.toInt64 p).toInt = p.toInt := Int32.toInt_toInt64 p
  rw [h]
  rfl
theorem W0_1000 {p : Int32} {s : Sg} : mX8_within p 0 1000 s = some ((if btw p 0 1000 then 1 else 0), s) := within_if
theorem M0_1000 {p : Int32} {s : Sg} : mX9_in (Int32.toInt64 p) 0 1000 s = some ((if btw p 0 1000 then 1 else 0), s) := by
  rw [in_if]
  have h : (Int32.toInt64 p).toInt = p.toInt := Int32.toInt_toInt64 p
  rw [h]
  rfl
theorem W1_20 {p : Int32} {s : Sg} : mX8_within p 1 20 s = some ((if btw p 1 20 then 1 else 0), s) := within_if
theorem M1_20 {p : Int32} {s : Sg} : mX9_in (Int32.toInt64 p) 1 20 s = some ((if btw p 1 20 then 1 else 0), s) := by
  rw [in_if]
  have h : (Int32.toInt64 p).toInt = p.toInt := Int32.toInt_toInt64 p
  rw [h]
  rfl
theorem W100_4000 {p : Int32} {s : Sg} : mX8_within p 100 4000 s = some ((if btw p 100 4000 then 1 else 0), s) := within_if
theorem M100_4000 {p : Int32} {s : Sg} : mX9_in (Int32.toInt64 p) 100 4000 s = some ((if btw p 100 4000 then 1 else 0), s) := by
  rw [in_if]
  have h : (Int32.toInt64 p).toInt = p.toInt := Int32.toInt_toInt64 p
  rw [h]
  rfl
theorem W200_600 {p : Int32} {s : Sg} : mX8_within p 200 600 s = some ((if btw p 200 600 then 1 else 0), s) := within_if
theorem M200_600 {p : Int32} {s : Sg} : mX9_in (Int32.toInt64 p) 200 600 s = some ((if btw p 200 600 then 1 else 0), s) := by
  rw [in_if]
  have h : (Int32.toInt64 p).toInt = p.toInt := Int32.toInt_toInt64 p
  rw [h]
  rfl
theorem W15000_47000 {p : Int32} {s : Sg} : mX8_within p 15000 47000 s = some ((if btw p 15000 47000 then 1 else 0), s) := within_if
theorem M15000_47000 {p : Int32} {s : Sg} : mX9_in (Int32.toInt64 p) 15000 47000 s = some ((if btw p 15000 47000 then 1 else 0), s) := by
  rw [in_if]
  have h : (Int32.toInt64 p).toInt = p.toInt := Int32.toInt_toInt64 p
  rw [h]
  rfl
theorem W0_3 {p : Int32} {s : Sg} : mX8_within p 0 3 s = some ((if btw p 0 3 then 1 else 0), s) := within_if
theorem M0_3 {p : Int32} {s : Sg} : mX9_in (Int32.toInt64 p) 0 3 s = some ((if btw p 0 3 then 1 else 0), s) := by
  rw [in_if]
  have h : (Int32.toInt64 p).toInt = p.toInt := Int32.toInt_toInt64 p
  rw [h]
  rfl
theorem W6000_15000 {p : Int32} {s : Sg} : mX8_within p 6000 15000 s = some ((if btw p 6000 15000 then 1 else 0), s) := within_if
theorem M6000_15000 {p : Int32} {s : Sg} : mX9_in (Int32.toInt64 p) 6000 15000 s = some ((if btw p 6000 15000 then 1 else 0), s) := by
  rw [in_if]
  have h : (Int32.toInt64 p).toInt = p.toInt := Int32.toInt_toInt64 p
  rw [h]
  rfl
theorem W0_150 {p : Int32} {s : Sg} : mX8_within p 0 150 s = some ((if btw p 0 150 then 1 else 0), s) := within_if
theorem M0_150 {p : Int32} {s : Sg} : mX9_in (Int32.toInt64 p) 0 150 s = some ((if btw p 0 150 then 1 else 0), s) := by
  rw [in_if]
  have h : (Int32.toInt64 p).toInt = p.toInt := Int32.toInt_toInt64 p
  rw [h]
  rfl
theorem W0_9 {p : Int32} {s : Sg} : mX8_within p 0 9 s = some ((if btw p 0 9 then 1 else 0), s) := within_if
theorem M0_9 {p : Int32} {s : Sg} : mX9_in (Int32.toInt64 p) 0 9 s = some ((if btw p 0 9 then 1 else 0), s) := by
  rw [in_if]
  have h : (Int32.toInt64 p).toInt = p.toInt := Int32.toInt_toInt64 p
  rw [h]
  rfl
theorem W1_60 {p : Int32} {s : Sg} : mX8_within p 1 60 s = some ((if btw p 1 60 then 1 else 0), s) := within_if
theorem M1_60 {p : Int32} {s : Sg} : mX9_in (Int32.toInt64 p) 1 60 s = some ((if btw p 1 60 then 1 else 0), s) := by
  rw [in_if]
  have h : (Int32.toInt64 p).toInt = p.toInt := Int32.toInt_toInt64 p
  rw [h]
  rfl
theorem Wm50000_50000 {p : Int32} {s : Sg} : mX8_within p (-50000) 50000 s = some ((if btw p (-50000) 50000 then 1 else 0), s) := within_if
theorem Mm50000_50000 {p : Int32} {s : Sg} : mX9_in (Int32.toInt64 p) (-50000) 50000 s = some ((if btw p (-50000) 50000 then 1 else 0), s) := by
  rw [in_if]
  have h : (Int32.toInt64 p).toInt = p.toInt := Int32.toInt_toInt64 p
  rw [h]
  rfl
theorem W0_31 {p : Int32} {s : Sg} : mX8_within p 0 31 s = some ((if btw p 0 31 then 1 else 0), s) := within_if
theorem M0_31 {p : Int32} {s : Sg} : mX9_in (Int32.toInt64 p) 0 31 s = some ((if btw p 0 31 then 1 else 0), s) := by
  rw [in_if]
  have h : (Int32.toInt64 p).toInt = p.toInt := Int32.toInt_toInt64 p
  rw [h]
  rfl
theorem W0_20 {p : Int32} {s : Sg} : mX8_within p 0 20 s = some ((if btw p 0 20 then 1 else 0), s) := within_if
theorem M0_20 {p : Int32} {s : Sg} : mX9_in (Int32.toInt64 p) 0 20 s = some ((if btw p 0 20 then 1 else 0), s) := by
  rw [in_if]
  have h : (Int32.toInt64 p).toInt = p.toInt := Int32.toInt_toInt64 p
  rw [h]
  rfl
theorem W0_5000 {p : Int32} {s : Sg} : mX8_within p 0 5000 s = some ((if btw p 0 5000 then 1 else 0), s) := within_if
theorem M0_5000 {p : Int32} {s : Sg} : mX9_in (Int32.toInt64 p) 0 5000 s = some ((if btw p 0 5000 then 1 else 0), s) := by
  rw [in_if]
  have h : (Int32.toInt64 p).toInt = p.toInt := Int32.toInt_toInt64 p
  rw [h]
  rfl
theorem W0_20000 {p : Int32} {s : Sg} : mX8_within p 0 20000 s = some ((if btw p 0 20000 then 1 else 0), s) := within_if
theorem M0_20000 {p : Int32} {s : Sg} : mX9_in (Int32.toInt64 p) 0 20000 s = some ((if btw p 0 20000 then 1 else 0), s) := by
  rw [in_if]
  have h : (Int32.toInt64 p).toInt = p.toInt := Int32.toInt_toInt64 p
  rw [h]
  rfl
theorem W0_180000 {p : Int32} {s : Sg} : mX8_within p 0 180000 s = some ((if btw p 0 180000 then 1 else 0), s) := within_if
theorem M0_180000 {p : Int32} {s : Sg} : mX9_in (Int32.toInt64 p) 0 180000 s = some ((if btw p 0 180000 then 1 else 0), s) := by
  rw [in_if]
  have h : (Int32.toInt64 p).toInt = p.toInt := Int32.toInt_toInt64 p
  rw [h]
  rfl
theorem Wy0_11 {p : Int32} (h : btw p 0 11) (s : Sg) : mX8_within p 0 11 s = some (1, s) := by
  rw [W0_11, if_pos h]
theorem Wn0_11 {p : Int32} (h : ¬ btw p 0 11) (s : Sg) : mX8_within p 0 11 s = some (0, s) := by
  rw [W0_11, if_neg h]
theorem My0_11 {p : Int32} (h : btw p 0 11) (s : Sg) : mX9_in (Int32.toInt64 p) 0 11 s = some (1, s) := by
  rw [M0_11, if_pos h]
theorem Mn0_11 {p : Int32} (h : ¬ btw p 0 11) (s : Sg) : mX9_in (Int32.toInt64 p) 0 11 s = some (0, s) := by
  rw [M0_11, if_neg h]
theorem Wym300_300 {p : Int32} (h : btw p (-300) 300) (s : Sg) : mX8_within p (-300) 300 s = some (1, s) := by
  rw [Wm300_300, if_pos h]
theorem Wnm300_300 {p : Int32} (h : ¬ btw p (-300) 300) (s : Sg) : mX8_within p (-300) 300 s = some (0, s) := by
  rw [Wm300_300, if_neg h]
theorem Mym300_300 {p : Int32} (h : btw p (-300) 300) (s : Sg) : mX9_in (Int32.toInt64 p) (-300) 300 s = some (1, s) := by
  rw [Mm300_300, if_pos h]
theorem Mnm300_300 {p : Int32} (h : ¬ btw p (-300) 300) (s : Sg) : mX9_in (Int32.toInt64 p) (-300) 300 s = some (0, s) := by
  rw [Mm300_300, if_neg h]
theorem Wy0_1 {p : Int32} (h : btw p 0 1) (s : Sg) : mX8_within p 0 1 s = some (1, s) := by
  rw [W0_1, if_pos h]
theorem Wn0_1 {p : Int32} (h : ¬ btw p 0 1) (s : Sg) : mX8_within p 0 1 s = some (0, s) := by
  rw [W0_1, if_neg h]
theorem My0_1 {p : Int32} (h : btw p 0 1) (s : Sg) : mX9_in (Int32.toInt64 p) 0 1 s = some (1, s) := by
  rw [M0_1, if_pos h]
theorem Mn0_1 {p : Int32} (h : ¬ btw p 0 1) (s : Sg) : mX9_in (Int32.toInt64 p) 0 1 s = some (0, s) := by
  rw [M0_1, if_neg h]
theorem Wy0_2 {p : Int32} (h : btw p 0 2) (s : Sg) : mX8_within p 0 2 s = some (1, s) := by
  rw [W0_2, if_pos h]
theorem Wn0_2 {p : Int32} (h : ¬ btw p 0 2) (s : Sg) : mX8_within p 0 2 s = some (0, s) := by
  rw [W0_2, if_neg h]
theorem My0_2 {p : Int32} (h : btw p 0 2) (s : Sg) : mX9_in (Int32.toInt64 p) 0 2 s = some (1, s) := by
  rw [M0_2, if_pos h]
theorem Mn0_2 {p : Int32} (h : ¬ btw p 0 2) (s : Sg) : mX9_in (Int32.toInt64 p) 0 2 s = some (0, s) := by
  rw [M0_2, if_neg h]
theorem Wy40_200 {p : Int32} (h : btw p 40 200) (s : Sg) : mX8_within p 40 200 s = some (1, s) := by
  rw [W40_200, if_pos h]
theorem Wn40_200 {p : Int32} (h : ¬ btw p 40 200) (s : Sg) : mX8_within p 40 200 s = some (0, s) := by
  rw [W40_200, if_neg h]
theorem My40_200 {p : Int32} (h : btw p 40 200) (s : Sg) : mX9_in (Int32.toInt64 p) 40 200 s = some (1, s) := by
  rw [M40_200, if_pos h]
theorem Mn40_200 {p : Int32} (h : ¬ btw p 40 200) (s : Sg) : mX9_in (Int32.toInt64 p) 40 200 s = some (0, s) := by
  rw [M40_200, if_neg h]
theorem Wy0_1000 {p : Int32} (h : btw p 0 1000) (s : Sg) : mX8_within p 0 1000 s = some (1, s) := by
  rw [W0_1000, if_pos h]
theorem Wn0_1000 {p : Int32} (h : ¬ btw p 0 1000) (s : Sg) : mX8_within p 0 1000 s = some (0, s) := by
  rw [W0_1000, if_neg h]
theorem My0_1000 {p : Int32} (h : btw p 0 1000) (s : Sg) : mX9_in (Int32.toInt64 p) 0 1000 s = some (1, s) := by
  rw [M0_1000, if_pos h]
theorem Mn0_1000 {p : Int32} (h : ¬ btw p 0 1000) (s : Sg) : mX9_in (Int32.toInt64 p) 0 1000 s = some (0, s) := by
  rw [M0_1000, if_neg h]
theorem Wy1_20 {p : Int32} (h : btw p 1 20) (s : Sg) : mX8_within p 1 20 s = some (1, s) := by
  rw [W1_20, if_pos h]
theorem Wn1_20 {p : Int32} (h : ¬ btw p 1 20) (s : Sg) : mX8_within p 1 20 s = some (0, s) := by
  rw [W1_20, if_neg h]
theorem My1_20 {p : Int32} (h : btw p 1 20) (s : Sg) : mX9_in (Int32.toInt64 p) 1 20 s = some (1, s) := by
  rw [M1_20, if_pos h]
theorem Mn1_20 {p : Int32} (h : ¬ btw p 1 20) (s : Sg) : mX9_in (Int32.toInt64 p) 1 20 s = some (0, s) := by
  rw [M1_20, if_neg h]
theorem Wy100_4000 {p : Int32} (h : btw p 100 4000) (s : Sg) : mX8_within p 100 4000 s = some (1, s) := by
  rw [W100_4000, if_pos h]
theorem Wn100_4000 {p : Int32} (h : ¬ btw p 100 4000) (s : Sg) : mX8_within p 100 4000 s = some (0, s) := by
  rw [W100_4000, if_neg h]
theorem My100_4000 {p : Int32} (h : btw p 100 4000) (s : Sg) : mX9_in (Int32.toInt64 p) 100 4000 s = some (1, s) := by
  rw [M100_4000, if_pos h]
theorem Mn100_4000 {p : Int32} (h : ¬ btw p 100 4000) (s : Sg) : mX9_in (Int32.toInt64 p) 100 4000 s = some (0, s) := by
  rw [M100_4000, if_neg h]
theorem Wy200_600 {p : Int32} (h : btw p 200 600) (s : Sg) : mX8_within p 200 600 s = some (1, s) := by
  rw [W200_600, if_pos h]
theorem Wn200_600 {p : Int32} (h : ¬ btw p 200 600) (s : Sg) : mX8_within p 200 600 s = some (0, s) := by
  rw [W200_600, if_neg h]
theorem My200_600 {p : Int32} (h : btw p 200 600) (s : Sg) : mX9_in (Int32.toInt64 p) 200 600 s = some (1, s) := by
  rw [M200_600, if_pos h]
theorem Mn200_600 {p : Int32} (h : ¬ btw p 200 600) (s : Sg) : mX9_in (Int32.toInt64 p) 200 600 s = some (0, s) := by
  rw [M200_600, if_neg h]
theorem Wy15000_47000 {p : Int32} (h : btw p 15000 47000) (s : Sg) : mX8_within p 15000 47000 s = some (1, s) := by
  rw [W15000_47000, if_pos h]
theorem Wn15000_47000 {p : Int32} (h : ¬ btw p 15000 47000) (s : Sg) : mX8_within p 15000 47000 s = some (0, s) := by
  rw [W15000_47000, if_neg h]
theorem My15000_47000 {p : Int32} (h : btw p 15000 47000) (s : Sg) : mX9_in (Int32.toInt64 p) 15000 47000 s = some (1, s) := by
  rw [M15000_47000, if_pos h]
theorem Mn15000_47000 {p : Int32} (h : ¬ btw p 15000 47000) (s : Sg) : mX9_in (Int32.toInt64 p) 15000 47000 s = some (0, s) := by
  rw [M15000_47000, if_neg h]
theorem Wy0_3 {p : Int32} (h : btw p 0 3) (s : Sg) : mX8_within p 0 3 s = some (1, s) := by
  rw [W0_3, if_pos h]
theorem Wn0_3 {p : Int32} (h : ¬ btw p 0 3) (s : Sg) : mX8_within p 0 3 s = some (0, s) := by
  rw [W0_3, if_neg h]
theorem My0_3 {p : Int32} (h : btw p 0 3) (s : Sg) : mX9_in (Int32.toInt64 p) 0 3 s = some (1, s) := by
  rw [M0_3, if_pos h]
theorem Mn0_3 {p : Int32} (h : ¬ btw p 0 3) (s : Sg) : mX9_in (Int32.toInt64 p) 0 3 s = some (0, s) := by
  rw [M0_3, if_neg h]
theorem Wy6000_15000 {p : Int32} (h : btw p 6000 15000) (s : Sg) : mX8_within p 6000 15000 s = some (1, s) := by
  rw [W6000_15000, if_pos h]
theorem Wn6000_15000 {p : Int32} (h : ¬ btw p 6000 15000) (s : Sg) : mX8_within p 6000 15000 s = some (0, s) := by
  rw [W6000_15000, if_neg h]
theorem My6000_15000 {p : Int32} (h : btw p 6000 15000) (s : Sg) : mX9_in (Int32.toInt64 p) 6000 15000 s = some (1, s) := by
  rw [M6000_15000, if_pos h]
theorem Mn6000_15000 {p : Int32} (h : ¬ btw p 6000 15000) (s : Sg) : mX9_in (Int32.toInt64 p) 6000 15000 s = some (0, s) := by
  rw [M6000_15000, if_neg h]
theorem Wy0_150 {p : Int32} (h : btw p 0 150) (s : Sg) : mX8_within p 0 150 s = some (1, s) := by
  rw [W0_150, if_pos h]
theorem Wn0_150 {p : Int32} (h : ¬ btw p 0 150) (s : Sg) : mX8_within p 0 150 s = some (0, s) := by
  rw [W0_150, if_neg h]
theorem My0_150 {p : Int32} (h : btw p 0 150) (s : Sg) : mX9_in (Int32.toInt64 p) 0 150 s = some (1, s) := by
  rw [M0_150, if_pos h]
theorem Mn0_150 {p : Int32} (h : ¬ btw p 0 150) (s : Sg) : mX9_in (Int32.toInt64 p) 0 150 s = some (0, s) := by
  rw [M0_150, if_neg h]
theorem Wy0_9 {p : Int32} (h : btw p 0 9) (s : Sg) : mX8_within p 0 9 s = some (1, s) := by
  rw [W0_9, if_pos h]
theorem Wn0_9 {p : Int32} (h : ¬ btw p 0 9) (s : Sg) : mX8_within p 0 9 s = some (0, s) := by
  rw [W0_9, if_neg h]
theorem My0_9 {p : Int32} (h : btw p 0 9) (s : Sg) : mX9_in (Int32.toInt64 p) 0 9 s = some (1, s) := by
  rw [M0_9, if_pos h]
theorem Mn0_9 {p : Int32} (h : ¬ btw p 0 9) (s : Sg) : mX9_in (Int32.toInt64 p) 0 9 s = some (0, s) := by
  rw [M0_9, if_neg h]
theorem Wy1_60 {p : Int32} (h : btw p 1 60) (s : Sg) : mX8_within p 1 60 s = some (1, s) := by
  rw [W1_60, if_pos h]
theorem Wn1_60 {p : Int32} (h : ¬ btw p 1 60) (s : Sg) : mX8_within p 1 60 s = some (0, s) := by
  rw [W1_60, if_neg h]
theorem My1_60 {p : Int32} (h : btw p 1 60) (s : Sg) : mX9_in (Int32.toInt64 p) 1 60 s = some (1, s) := by
  rw [M1_60, if_pos h]
theorem Mn1_60 {p : Int32} (h : ¬ btw p 1 60) (s : Sg) : mX9_in (Int32.toInt64 p) 1 60 s = some (0, s) := by
  rw [M1_60, if_neg h]
theorem Wym50000_50000 {p : Int32} (h : btw p (-50000) 50000) (s : Sg) : mX8_within p (-50000) 50000 s = some (1, s) := by
  rw [Wm50000_50000, if_pos h]
theorem Wnm50000_50000 {p : Int32} (h : ¬ btw p (-50000) 50000) (s : Sg) : mX8_within p (-50000) 50000 s = some (0, s) := by
  rw [Wm50000_50000, if_neg h]
theorem Mym50000_50000 {p : Int32} (h : btw p (-50000) 50000) (s : Sg) : mX9_in (Int32.toInt64 p) (-50000) 50000 s = some (1, s) := by
  rw [Mm50000_50000, if_pos h]
theorem Mnm50000_50000 {p : Int32} (h : ¬ btw p (-50000) 50000) (s : Sg) : mX9_in (Int32.toInt64 p) (-50000) 50000 s = some (0, s) := by
  rw [Mm50000_50000, if_neg h]
theorem Wy0_31 {p : Int32} (h : btw p 0 31) (s : Sg) : mX8_within p 0 31 s = some (1, s) := by
  rw [W0_31, if_pos h]
theorem Wn0_31 {p : Int32} (h : ¬ btw p 0 31) (s : Sg) : mX8_within p 0 31 s = some (0, s) := by
  rw [W0_31, if_neg h]
theorem My0_31 {p : Int32} (h : btw p 0 31) (s : Sg) : mX9_in (Int32.toInt64 p) 0 31 s = some (1, s) := by
  rw [M0_31, if_pos h]
theorem Mn0_31 {p : Int32} (h : ¬ btw p 0 31) (s : Sg) : mX9_in (Int32.toInt64 p) 0 31 s = some (0, s) := by
  rw [M0_31, if_neg h]
theorem Wy0_20 {p : Int32} (h : btw p 0 20) (s : Sg) : mX8_within p 0 20 s = some (1, s) := by
  rw [W0_20, if_pos h]
theorem Wn0_20 {p : Int32} (h : ¬ btw p 0 20) (s : Sg) : mX8_within p 0 20 s = some (0, s) := by
  rw [W0_20, if_neg h]
theorem My0_20 {p : Int32} (h : btw p 0 20) (s : Sg) : mX9_in (Int32.toInt64 p) 0 20 s = some (1, s) := by
  rw [M0_20, if_pos h]
theorem Mn0_20 {p : Int32} (h : ¬ btw p 0 20) (s : Sg) : mX9_in (Int32.toInt64 p) 0 20 s = some (0, s) := by
  rw [M0_20, if_neg h]
theorem Wy0_5000 {p : Int32} (h : btw p 0 5000) (s : Sg) : mX8_within p 0 5000 s = some (1, s) := by
  rw [W0_5000, if_pos h]
theorem Wn0_5000 {p : Int32} (h : ¬ btw p 0 5000) (s : Sg) : mX8_within p 0 5000 s = some (0, s) := by
  rw [W0_5000, if_neg h]
theorem My0_5000 {p : Int32} (h : btw p 0 5000) (s : Sg) : mX9_in (Int32.toInt64 p) 0 5000 s = some (1, s) := by
  rw [M0_5000, if_pos h]
theorem Mn0_5000 {p : Int32} (h : ¬ btw p 0 5000) (s : Sg) : mX9_in (Int32.toInt64 p) 0 5000 s = some (0, s) := by
  rw [M0_5000, if_neg h]
theorem Wy0_20000 {p : Int32} (h : btw p 0 20000) (s : Sg) : mX8_within p 0 20000 s = some (1, s) := by
  rw [W0_20000, if_pos h]
theorem Wn0_20000 {p : Int32} (h : ¬ btw p 0 20000) (s : Sg) : mX8_within p 0 20000 s = some (0, s) := by
  rw [W0_20000, if_neg h]
theorem My0_20000 {p : Int32} (h : btw p 0 20000) (s : Sg) : mX9_in (Int32.toInt64 p) 0 20000 s = some (1, s) := by
  rw [M0_20000, if_pos h]
theorem Mn0_20000 {p : Int32} (h : ¬ btw p 0 20000) (s : Sg) : mX9_in (Int32.toInt64 p) 0 20000 s = some (0, s) := by
  rw [M0_20000, if_neg h]
theorem Wy0_180000 {p : Int32} (h : btw p 0 180000) (s : Sg) : mX8_within p 0 180000 s = some (1, s) := by
  rw [W0_180000, if_pos h]
theorem Wn0_180000 {p : Int32} (h : ¬ btw p 0 180000) (s : Sg) : mX8_within p 0 180000 s = some (0, s) := by
  rw [W0_180000, if_neg h]
theorem My0_180000 {p : Int32} (h : btw p 0 180000) (s : Sg) : mX9_in (Int32.toInt64 p) 0 180000 s = some (1, s) := by
  rw [M0_180000, if_pos h]
theorem Mn0_180000 {p : Int32} (h : ¬ btw p 0 180000) (s : Sg) : mX9_in (Int32.toInt64 p) 0 180000 s = some (0, s) := by
  rw [M0_180000, if_neg h]
theorem i10 : ((1 : Int32) = 0) = False := by decide
theorem i00 : ((0 : Int32) = 0) = True := by decide
theorem isWind_y {p : Int32} (h : btw p (-300) 300) (s : Sg) : mX8_isWind p s = some (1, s) := by
  unfold mX8_isWind
  rw [Wym300_300 h]
  rfl
theorem isWind_n {p : Int32} (h : ¬ btw p (-300) 300) (s : Sg) : mX8_isWind p s = some (0, s) := by
  unfold mX8_isWind
  rw [Wnm300_300 h]
  rfl
theorem isPause_y {p : Int32} (h : btw p 1 60) (s : Sg) : mX8_isPause p s = some (1, s) := by
  unfold mX8_isPause
  rw [Wy1_60 h]
  rfl
theorem isPause_n {p : Int32} (h : ¬ btw p 1 60) (s : Sg) : mX8_isPause p s = some (0, s) := by
  unfold mX8_isPause
  rw [Wn1_60 h]
  rfl
theorem isSheet_y {p : Int32} (h : btw p 0 2) (s : Sg) : mX9_isSheet p s = some (1, s) := by
  unfold mX9_isSheet
  rw [My0_2 h]
  rfl
theorem isSheet_n {p : Int32} (h : ¬ btw p 0 2) (s : Sg) : mX9_isSheet p s = some (0, s) := by
  unfold mX9_isSheet
  rw [Mn0_2 h]
  rfl
section UPD
variable {s : Sg} {a k : Nat}
theorem sN_uI {v : Int32} : sN (uI s a k v) = sN s := rfl
theorem sN_uR {v : Option Nat} : sN (uR s a k v) = sN s := rfl
theorem sN_uF {v : UInt32} : sN (uF s a k v) = sN s := rfl
theorem sN_uL {v : Int64} : sN (uL s a k v) = sN s := rfl
theorem sR_uI {v : Int32} : sR (uI s a k v) = sR s := rfl
theorem sR_uF {v : UInt32} : sR (uF s a k v) = sR s := rfl
theorem sR_uL {v : Int64} : sR (uL s a k v) = sR s := rfl
theorem sF_uI {v : Int32} : sF (uI s a k v) = sF s := rfl
theorem sF_uR {v : Option Nat} : sF (uR s a k v) = sF s := rfl
theorem sF_uL {v : Int64} : sF (uL s a k v) = sF s := rfl
theorem sI_uR {v : Option Nat} : sI (uR s a k v) = sI s := rfl
theorem sI_uF {v : UInt32} : sI (uF s a k v) = sI s := rfl
theorem sI_uL {v : Int64} : sI (uL s a k v) = sI s := rfl
theorem sL_uI {v : Int32} : sL (uI s a k v) = sL s := rfl
theorem sL_uR {v : Option Nat} : sL (uR s a k v) = sL s := rfl
theorem sL_uF {v : UInt32} : sL (uF s a k v) = sL s := rfl
theorem sI_s {v : Int32} : sI (uI s a k v) a k = v := u2_s _ _ _ _
theorem sI_ne {v : Int32} {b j : Nat} (h : b ≠ a) : sI (uI s a k v) b j = sI s b j := u2_a _ _ _ _ h
theorem sI_nk {v : Int32} {b j : Nat} (h : j ≠ k) : sI (uI s a k v) b j = sI s b j := u2_k _ _ _ _ h
theorem sI_fa {v : Int32} {b : Nat} (h : b ≠ a) : sI (uI s a k v) b = sI s b := u2_fa _ _ _ h
theorem sI_if {v : Int32} {b j : Nat} : sI (uI s a k v) b j = if b = a ∧ j = k then v else sI s b j := rfl
theorem sR_if {v : Option Nat} {b j : Nat} : sR (uR s a k v) b j = if b = a ∧ j = k then v else sR s b j := rfl
theorem sF_if {v : UInt32} {b j : Nat} : sF (uF s a k v) b j = if b = a ∧ j = k then v else sF s b j := rfl
end UPD
section NN
variable {β : Type} {s : Sg} {c a n : Nat} {v : Int32}
theorem alI_n {f : Int32 → Option β} (hl : n < ln a) (h : kd a = 21) (hn : a < sN s) : alI s (some a) (nI n) f = f (sI s a n) := alI_at rfl hl h hn
theorem alZ_n {f : Int32 → Option β} (hl : n < ln a) (h : kd a = 22) (hn : a < sN s) : alZ s (some a) (nI n) f = f (sI s a n) := alZ_at rfl hl h hn
theorem alF_n {f : UInt32 → Option β} (hl : n < ln a) (h : kd a = 20) (hn : a < sN s) : alF s (some a) (nI n) f = f (sF s a n) := alF_at rfl hl h hn
theorem alR_n {f : Option Nat → Option β} (hl : n < ln a) (h : kd a = 30 + c) (hn : a < sN s) : alR s c (some a) (nI n) f = f (sR s a n) := alR_at rfl hl h hn
theorem asI_n {f : Sg → Option β} (hl : n < ln a) (h : kd a = 21) (hn : a < sN s) : asI s (some a) (nI n) v f = f (uI s a n v) := asI_at rfl hl h hn
theorem asZ_n {f : Sg → Option β} (hv : v = 0 ∨ v = 1) (hl : n < ln a) (h : kd a = 22) (hn : a < sN s) : asZ s (some a) (nI n) v f = f (uI s a n v) := asZ_at hv rfl hl h hn
theorem asF_n {f : Sg → Option β} {x : UInt32} (hl : n < ln a) (h : kd a = 20) (hn : a < sN s) : asF s (some a) (nI n) x f = f (uF s a n x) := asF_at rfl hl h hn
theorem asR_n {f : Sg → Option β} {x : Option Nat} (hx : isAb s c x = true) (hl : n < ln a) (h : kd a = 30 + c) (hn : a < sN s) : asR s c (some a) (nI n) x f = f (uR s a n x) := asR_at hx rfl hl h hn
end NN
/-- the desk's own references, the reference's own -/
theorem dR {β : Type} {s : Sg} {k : Nat} {f : Option Nat → Option β} (hN : sN s = 249) : gdR s 8 k (some 0) f = f (sR s 0 k) := gdR_at (by decide) (by rw [hN]; decide)
theorem dI {β : Type} {s : Sg} {k : Nat} {f : Int32 → Option β} (hN : sN s = 249) : gdI s 8 k (some 0) f = f (sI s 0 k) := gdI_at (by decide) (by rw [hN]; decide)
theorem mI {β : Type} {s : Sg} {k : Nat} {f : Int32 → Option β} (hN : sN s = 249) : gdI s 9 k (some 207) f = f (sI s 207 k) := gdI_at (by decide) (by rw [hN]; decide)
def M0 (s : Sg) : Prop := sN s = 249 ∧ ∀ k, k < 48 → moR k = 0 ∨ sR s 207 k = some (moR k)
theorem R0.m {s : Sg} (h : R0 s) : M0 s := by
  obtain ⟨h0, h1, h2, h3, h4, h5, h6, h7, h8, h9, h10, h11, h12, h13, h14, b1, b2, b3, b4, b5, b6, b7⟩ := h
  exact ⟨h0, b7⟩
theorem mR {β : Type} {s : Sg} (h : M0 s) (k b : Nat) (hb : moR k = b) (h0 : b ≠ 0) (hk : k < 48) {f : Option Nat → Option β} : gdR s 9 k (some 207) f = f (some b) := by
  rw [gdR_at (by decide) (by rw [h.1]; decide)]
  rcases h.2 k hk with q | q
  · exact absurd (hb.symm.trans q) h0
  · rw [q, hb]
theorem M0.uI {s : Sg} (h : M0 s) {a k : Nat} {v : Int32} : M0 (uI s a k v) := h
theorem M0.uF {s : Sg} (h : M0 s) {a k : Nat} {v : UInt32} : M0 (uF s a k v) := h
theorem M0.uL {s : Sg} (h : M0 s) {a k : Nat} {v : Int64} : M0 (uL s a k v) := h
theorem M0.uR {s : Sg} (h : M0 s) {a k : Nat} {v : Option Nat} (ha : a ≠ 207) : M0 (uR s a k v) := ⟨h.1, fun j hj => by
  rcases h.2 j hj with q | q
  · exact Or.inl q
  · right
    rw [sR_if, if_neg (fun z => ha z.1.symm)]
    exact q⟩
theorem R0.uI {s : Sg} (h : R0 s) {a k : Nat} {v : Int32} (hk : k ≠ 0 ∨ a < 24 ∨ 99 ≤ a) : R0 (uI s a k v) := h.congr rfl (fun _ _ _ _ _ => rfl) (fun b h1 h2 => by
  rw [sI_if, if_neg]
  intro z
  obtain ⟨rfl, rfl⟩ := z
  omega)
theorem R0.uF {s : Sg} (h : R0 s) {a k : Nat} {v : UInt32} : R0 (uF s a k v) := h
theorem R0.uL {s : Sg} (h : R0 s) {a k : Nat} {v : Int64} : R0 (uL s a k v) := h
theorem btw_nI (N : Nat) {p : Int32} {B : Int} (h : btw p 0 B) (hB : B < N) : ∃ k, k < N ∧ p = nI k := by
  obtain ⟨k, h31, hk⟩ := nI_of (x := p) (fun q => by
    rw [Int32.lt_iff_toInt_lt] at q
    have : (0 : Int32).toInt = 0 := rfl
    have := h.1
    omega)
  refine ⟨k, ?_, hk⟩
  have h2 := h.2
  rw [hk, nI_toInt h31] at h2
  omega
theorem btw_of {k : Nat} {B : Int} (h : (k : Int) ≤ B) (hn : k < 2 ^ 30) : btw (nI k) 0 B := by
  refine ⟨?_, ?_⟩ <;> rw [nI_toInt (by omega)] <;> omega
theorem c8 {β : Type} {s : Sg} {f : Nat → Option β} (hN : sN s = 249) : cv s 8 (some 0) f = f 0 := cv_at (by decide) (by rw [hN]; decide)
theorem sn {x : Nat} : ((some x : Option Nat) = none) = False := by simp
theorem nn : ((none : Option Nat) = none) = True := by simp
/-- sheets, jumpers, planes, groups, loads by their numbers -/
theorem sheetAt_in {s : Sg} (h : R0 s) {r : Nat} (hr : r < 3) : mX8_sheetAt 0 (nI r) s = some (some (15 + 3 * r), s) := by
  have h1 := h
  obtain ⟨h0, q0, -, -, -, -, -, -, -, -, -, -, -, -, -, b1, -⟩ := h1
  unfold mX8_sheetAt
  rw [if_neg (nI0 (by omega)), dR h0, q0, aln_at (by decide) (by rw [h0]; decide), if_neg (nIn (show r < ln 1 from hr) (by decide)), dR h0, q0, alR_n (show r < ln 1 from hr) (by decide) (by rw [h0]; decide), (b1 r hr).1]
theorem sheetAt_out {s : Sg} (h : R0 s) {p : Int32} (hp : ¬ btw p 0 2) : mX8_sheetAt 0 p s = some (none, s) := by
  obtain ⟨h0, q0, -⟩ := h
  unfold mX8_sheetAt
  rcases ixI 3 (by decide) p with ⟨-, q⟩ | ⟨-, q, q2⟩ | ⟨j, hj, rfl⟩
  · rw [if_pos q]
  · rw [if_neg q2, dR h0, q0, aln_at (by decide) (by rw [h0]; decide), if_pos (show nI (ln 1) ≤ p from q)]
  · exact absurd (btw_of (by omega) (by omega)) hp
theorem jumperAt_in {s : Sg} (h : R0 s) {r : Nat} (hr : r < 32) : mX8_jumperAt 0 (nI r) s = some (some (24 + r), s) := by
  obtain ⟨h0, q0, q1, q2, q3, q4, q5, q6, q7, q8, q9, q10, q11, q12, q13, b1, b2, -⟩ := h
  unfold mX8_jumperAt
  rw [if_neg (nI0 (by omega)), dR h0, q2, aln_at (by decide) (by rw [h0]; decide), if_neg (nIn (show r < ln 5 from hr) (by decide)), dR h0, q2, alR_n (show r < ln 5 from hr) (by decide) (by rw [h0]; decide), (b2 r hr).1]
theorem jumperAt_out {s : Sg} (h : R0 s) {p : Int32} (hp : ¬ btw p 0 31) : mX8_jumperAt 0 p s = some (none, s) := by
  obtain ⟨h0, q0, q1, q2, -⟩ := h
  unfold mX8_jumperAt
  rcases ixI 32 (by decide) p with ⟨-, q⟩ | ⟨-, q, q9⟩ | ⟨j, hj, rfl⟩
  · rw [if_pos q]
  · rw [if_neg q9, dR h0, q2, aln_at (by decide) (by rw [h0]; decide), if_pos (show nI (ln 5) ≤ p from q)]
  · exact absurd (btw_of (by omega) (by omega)) hp
theorem planeAt_in {s : Sg} (h : R0 s) {r : Nat} (hr : r < 3) : mX8_planeAt 0 (nI r) s = some (some (96 + r), s) := by
  obtain ⟨h0, q0, q1, q2, q3, q4, q5, q6, q7, q8, q9, q10, q11, q12, q13, b1, b2, b3, b4, -⟩ := h
  unfold mX8_planeAt
  rw [if_neg (nI0 (by omega)), dR h0, q4, aln_at (by decide) (by rw [h0]; decide), if_neg (nIn (show r < ln 7 from hr) (by decide)), dR h0, q4, alR_n (show r < ln 7 from hr) (by decide) (by rw [h0]; decide), (b4 r hr).1]
theorem planeAt_out {s : Sg} (h : R0 s) {p : Int32} (hp : ¬ btw p 0 2) : mX8_planeAt 0 p s = some (none, s) := by
  obtain ⟨h0, q0, q1, q2, q3, q4, -⟩ := h
  unfold mX8_planeAt
  rcases ixI 3 (by decide) p with ⟨-, q⟩ | ⟨-, q, q9⟩ | ⟨j, hj, rfl⟩
  · rw [if_pos q]
  · rw [if_neg q9, dR h0, q4, aln_at (by decide) (by rw [h0]; decide), if_pos (show nI (ln 7) ≤ p from q)]
  · exact absurd (btw_of (by omega) (by omega)) hp
