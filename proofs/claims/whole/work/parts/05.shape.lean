/-- the cells of the class: 0 to 6 objects, then arrays; rows of grids from 64 on, 16 to a grid -/
def shXl (n : Nat) : List (Option zw_Sp) := [some (.inl (6, [(2, 1), (2, 5), (2, 20), (2, 21)])), some (.inl (5, [(0, 0), (0, 0), (2, 7), (2, 8), (2, 9), (2, 2), (2, 3), (0, 0)])), some (.inl (4, [(2, 10), (2, 11), (2, 12), (2, 13)])), some (.inl (2, [(2, 14), (2, 15), (2, 16), (2, 17), (2, 18), (0, 0)])), some (.inl (3, [(2, 22), (0, 0), (0, 0)])), some (.inl (0, [(2, 1), (2, 4), (2, 6), (2, 23), (2, 24), (2, 25), (2, 26), (2, 27), (0, 0), (0, 0), (0, 0), (0, 0), (0, 0), (0, 0), (0, 0)])), some (.inl (1, [(2, 28), (2, 29), (0, 0)])), some (.inr (0, n, 0)), some (.inr (0, n, 0)), some (.inr (1, n, 0)), some (.inr (0, n, 0)), some (.inr (3, n, 64)), some (.inr (3, n, 80)), some (.inr (3, n, 96)), some (.inr (0, 8, 0)), some (.inr (0, 8, 0)), some (.inr (0, 8, 0)), some (.inr (0, 8, 0)), some (.inr (0, 8, 0)), none, some (.inr (2, n, 0)), some (.inr (1, n, 0)), some (.inr (0, n, 0)), some (.inr (0, n, 0)), some (.inr (4, n, 112)), some (.inr (0, n, 0)), some (.inr (3, n, 128)), some (.inr (0, n, 0)), some (.inr (0, 16, 0)), some (.inr (0, 16, 0))]
def shXr (n g : Nat) : zw_Sp := match g with
  | 0 => .inr (0, 6, 0)
  | 1 => .inr (0, 6, 0)
  | 2 => .inr (0, 6, 0)
  | 3 => .inr (1, 21, 0)
  | _ => .inr (0, n, 0)
def shX (n k : Nat) : Option zw_Sp := if k < 64 then (shXl n).getD k none else if k < 144 then (if (k - 64) % 16 < n then some (shXr n ((k - 64) / 16)) else none) else none
theorem shr0 {n i : Nat} (hn : n ≤ 16) (h : i < n) : shX n (64 + i) = some (.inr (0, 6, 0)) := by
  unfold shX
  rw [if_neg (by omega), if_pos (by omega), show (64 + i - 64) % 16 = i by omega, if_pos h, show (64 + i - 64) / 16 = 0 by omega]
  rfl
theorem shr1 {n i : Nat} (hn : n ≤ 16) (h : i < n) : shX n (80 + i) = some (.inr (0, 6, 0)) := by
  unfold shX
  rw [if_neg (by omega), if_pos (by omega), show (80 + i - 64) % 16 = i by omega, if_pos h, show (80 + i - 64) / 16 = 1 by omega]
  rfl
theorem shr2 {n i : Nat} (hn : n ≤ 16) (h : i < n) : shX n (96 + i) = some (.inr (0, 6, 0)) := by
  unfold shX
  rw [if_neg (by omega), if_pos (by omega), show (96 + i - 64) % 16 = i by omega, if_pos h, show (96 + i - 64) / 16 = 2 by omega]
  rfl
theorem shr3 {n i : Nat} (hn : n ≤ 16) (h : i < n) : shX n (112 + i) = some (.inr (1, 21, 0)) := by
  unfold shX
  rw [if_neg (by omega), if_pos (by omega), show (112 + i - 64) % 16 = i by omega, if_pos h, show (112 + i - 64) / 16 = 3 by omega]
  rfl
theorem shr4 {n i : Nat} (hn : n ≤ 16) (h : i < n) : shX n (128 + i) = some (.inr (0, n, 0)) := by
  unfold shX
  rw [if_neg (by omega), if_pos (by omega), show (128 + i - 64) % 16 = i by omega, if_pos h, show (128 + i - 64) / 16 = 4 by omega]
  rfl
theorem ly_Course : ∀ w ∈ u_ws R_Course T_Course 15, w ∈ zw_Tb := fun w h => zw_in (ly0_Course w h) ((by decide +kernel : ∀ w ∈ u_ws R_Course T_Course 15, zw_ok w = true) w h)
theorem ly_Crew : ∀ w ∈ u_ws R_Crew T_Crew 3, w ∈ zw_Tb := fun w h => zw_in (ly0_Crew w h) ((by decide +kernel : ∀ w ∈ u_ws R_Crew T_Crew 3, zw_ok w = true) w h)
theorem ly_Failings : ∀ w ∈ u_ws R_Failings T_Failings 6, w ∈ zw_Tb := fun w h => zw_in (ly0_Failings w h) ((by decide +kernel : ∀ w ∈ u_ws R_Failings T_Failings 6, zw_ok w = true) w h)
theorem ly_Line : ∀ w ∈ u_ws R_Line T_Line 3, w ∈ zw_Tb := fun w h => zw_in (ly0_Line w h) ((by decide +kernel : ∀ w ∈ u_ws R_Line T_Line 3, zw_ok w = true) w h)
theorem ly_Needs : ∀ w ∈ u_ws R_Needs T_Needs 4, w ∈ zw_Tb := fun w h => zw_in (ly0_Needs w h) ((by decide +kernel : ∀ w ∈ u_ws R_Needs T_Needs 4, zw_ok w = true) w h)
theorem ly_Plan : ∀ w ∈ u_ws R_Plan T_Plan 8, w ∈ zw_Tb := fun w h => zw_in (ly0_Plan w h) ((by decide +kernel : ∀ w ∈ u_ws R_Plan T_Plan 8, zw_ok w = true) w h)
theorem ly_TS : ∀ w ∈ u_ws R_TS T_TS 4, w ∈ zw_Tb := fun w h => zw_in (ly0_TS w h) ((by decide +kernel : ∀ w ∈ u_ws R_TS T_TS 4, zw_ok w = true) w h)
theorem ly_Model : ∀ w ∈ u_ws R_Model T_Model 36, w ∈ zw_Tb := fun w h => zw_in (ly0_Model w h) ((by decide +kernel : ∀ w ∈ u_ws R_Model T_Model 36, zw_ok w = true) w h)
