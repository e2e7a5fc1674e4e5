section
/-! six races: piece by piece -/
set_option maxRecDepth 100000 in
theorem chk6_0 : chkB 6 0 9 216 = true := by decide +kernel
set_option maxRecDepth 100000 in
theorem chk6_1 : chkB 6 9 9 216 = true := by decide +kernel
set_option maxRecDepth 100000 in
theorem chk6_2 : chkB 6 18 9 216 = true := by decide +kernel
set_option maxRecDepth 100000 in
theorem chk6_3 : chkB 6 27 9 216 = true := by decide +kernel
set_option maxRecDepth 100000 in
theorem chk6_4 : chkB 6 36 9 216 = true := by decide +kernel
set_option maxRecDepth 100000 in
theorem chk6_5 : chkB 6 45 9 216 = true := by decide +kernel
set_option maxRecDepth 100000 in
theorem chk6_6 : chkB 6 54 9 216 = true := by decide +kernel
set_option maxRecDepth 100000 in
theorem chk6_7 : chkB 6 63 9 216 = true := by decide +kernel
set_option maxRecDepth 100000 in
theorem chk6_8 : chkB 6 72 9 216 = true := by decide +kernel
set_option maxRecDepth 100000 in
theorem chk6_9 : chkB 6 81 9 216 = true := by decide +kernel
set_option maxRecDepth 100000 in
theorem chk6_10 : chkB 6 90 9 216 = true := by decide +kernel
set_option maxRecDepth 100000 in
theorem chk6_11 : chkB 6 99 9 216 = true := by decide +kernel
set_option maxRecDepth 100000 in
theorem chk6_12 : chkB 6 108 9 216 = true := by decide +kernel
set_option maxRecDepth 100000 in
theorem chk6_13 : chkB 6 117 9 216 = true := by decide +kernel
set_option maxRecDepth 100000 in
theorem chk6_14 : chkB 6 126 9 216 = true := by decide +kernel
set_option maxRecDepth 100000 in
theorem chk6_15 : chkB 6 135 9 216 = true := by decide +kernel
set_option maxRecDepth 100000 in
theorem chk6_16 : chkB 6 144 9 216 = true := by decide +kernel
set_option maxRecDepth 100000 in
theorem chk6_17 : chkB 6 153 9 216 = true := by decide +kernel
set_option maxRecDepth 100000 in
theorem chk6_18 : chkB 6 162 9 216 = true := by decide +kernel
set_option maxRecDepth 100000 in
theorem chk6_19 : chkB 6 171 9 216 = true := by decide +kernel
set_option maxRecDepth 100000 in
theorem chk6_20 : chkB 6 180 9 216 = true := by decide +kernel
set_option maxRecDepth 100000 in
theorem chk6_21 : chkB 6 189 9 216 = true := by decide +kernel
set_option maxRecDepth 100000 in
theorem chk6_22 : chkB 6 198 9 216 = true := by decide +kernel
set_option maxRecDepth 100000 in
theorem chk6_23 : chkB 6 207 9 216 = true := by decide +kernel
theorem chk_6 {N : Nat} (hN : N < 46656) (hp : isP 6 N = true) : chk 6 N = true := by
  have h : N / 216 / 9 < 24 := by omega
  rcases (show N / 216 / 9 = 0 ∨ N / 216 / 9 = 1 ∨ N / 216 / 9 = 2 ∨ N / 216 / 9 = 3 ∨ N / 216 / 9 = 4 ∨ N / 216 / 9 = 5 ∨ N / 216 / 9 = 6 ∨ N / 216 / 9 = 7 ∨ N / 216 / 9 = 8 ∨ N / 216 / 9 = 9 ∨ N / 216 / 9 = 10 ∨ N / 216 / 9 = 11 ∨ N / 216 / 9 = 12 ∨ N / 216 / 9 = 13 ∨ N / 216 / 9 = 14 ∨ N / 216 / 9 = 15 ∨ N / 216 / 9 = 16 ∨ N / 216 / 9 = 17 ∨ N / 216 / 9 = 18 ∨ N / 216 / 9 = 19 ∨ N / 216 / 9 = 20 ∨ N / 216 / 9 = 21 ∨ N / 216 / 9 = 22 ∨ N / 216 / 9 = 23 by omega) with h | h | h | h | h | h | h | h | h | h | h | h | h | h | h | h | h | h | h | h | h | h | h | h
  · exact chkB_at chk6_0 (by omega) (by omega) (by omega) hp
  · exact chkB_at chk6_1 (by omega) (by omega) (by omega) hp
  · exact chkB_at chk6_2 (by omega) (by omega) (by omega) hp
  · exact chkB_at chk6_3 (by omega) (by omega) (by omega) hp
  · exact chkB_at chk6_4 (by omega) (by omega) (by omega) hp
  · exact chkB_at chk6_5 (by omega) (by omega) (by omega) hp
  · exact chkB_at chk6_6 (by omega) (by omega) (by omega) hp
  · exact chkB_at chk6_7 (by omega) (by omega) (by omega) hp
  · exact chkB_at chk6_8 (by omega) (by omega) (by omega) hp
  · exact chkB_at chk6_9 (by omega) (by omega) (by omega) hp
  · exact chkB_at chk6_10 (by omega) (by omega) (by omega) hp
  · exact chkB_at chk6_11 (by omega) (by omega) (by omega) hp
  · exact chkB_at chk6_12 (by omega) (by omega) (by omega) hp
  · exact chkB_at chk6_13 (by omega) (by omega) (by omega) hp
  · exact chkB_at chk6_14 (by omega) (by omega) (by omega) hp
  · exact chkB_at chk6_15 (by omega) (by omega) (by omega) hp
  · exact chkB_at chk6_16 (by omega) (by omega) (by omega) hp
  · exact chkB_at chk6_17 (by omega) (by omega) (by omega) hp
  · exact chkB_at chk6_18 (by omega) (by omega) (by omega) hp
  · exact chkB_at chk6_19 (by omega) (by omega) (by omega) hp
  · exact chkB_at chk6_20 (by omega) (by omega) (by omega) hp
  · exact chkB_at chk6_21 (by omega) (by omega) (by omega) hp
  · exact chkB_at chk6_22 (by omega) (by omega) (by omega) hp
  · exact chkB_at chk6_23 (by omega) (by omega) (by omega) hp
theorem chk_all {r N : Nat} (h0 : 0 < r) (h6 : r ≤ 6) (hN : N < r ^ r) (hp : isP r N = true) : chk r N = true := by
  rcases (show r = 1 ∨ r = 2 ∨ r = 3 ∨ r = 4 ∨ r = 5 ∨ r = 6 by omega) with rfl | rfl | rfl | rfl | rfl | rfl
  · exact chkB_at chk1 (by omega) (by omega) (by omega) hp
  · exact chkB_at chk2 (by omega) (by omega) (by omega) hp
  · exact chkB_at chk3 (by omega) (by omega) (by omega) hp
  · exact chkB_at chk4 (by omega) (by omega) (by omega) hp
  · exact chkB_at chk5 (by omega) (by omega) (by omega) hp
  · exact chk_6 (by omega) hp
end
