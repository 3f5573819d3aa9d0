set_option maxRecDepth 20000 in
theorem inX_X0 : ∀ w ∈ u_ws RX0 TX0 3, w ∈ mT := by
  intro w hw
  obtain ⟨k, hk, rfl⟩ := List.mem_map.mp hw
  have hk := List.mem_range.mp hk
  match k, hk with
  | 0, _ => exact mT_at 99 rfl rfl
  | 1, _ => exact mT_at 101 rfl rfl
  | 2, _ => exact mT_at 103 rfl rfl
  | k + 3, h => exact absurd h (by omega)
set_option maxRecDepth 20000 in
theorem inX_X1 : ∀ w ∈ u_ws RX1 TX1 8, w ∈ mT := by
  intro w hw
  obtain ⟨k, hk, rfl⟩ := List.mem_map.mp hw
  have hk := List.mem_range.mp hk
  match k, hk with
  | 0, _ => exact mT_at 58 rfl rfl
  | 1, _ => exact mT_at 60 rfl rfl
  | 2, _ => exact mT_at 62 rfl rfl
  | 3, _ => exact mT_at 64 rfl rfl
  | 4, _ => exact mT_at 66 rfl rfl
  | 5, _ => exact mT_at 68 rfl rfl
  | 6, _ => exact mT_at 70 rfl rfl
  | 7, _ => exact mT_at 72 rfl rfl
  | k + 8, h => exact absurd h (by omega)
set_option maxRecDepth 20000 in
theorem inX_X2 : ∀ w ∈ u_ws RX2 TX2 2, w ∈ mT := by
  intro w hw
  obtain ⟨k, hk, rfl⟩ := List.mem_map.mp hw
  have hk := List.mem_range.mp hk
  match k, hk with
  | 0, _ => exact mT_at 81 rfl rfl
  | 1, _ => exact mT_at 83 rfl rfl
  | k + 2, h => exact absurd h (by omega)
set_option maxRecDepth 20000 in
theorem inX_X3 : ∀ w ∈ u_ws RX3 TX3 4, w ∈ mT := by
  intro w hw
  obtain ⟨k, hk, rfl⟩ := List.mem_map.mp hw
  have hk := List.mem_range.mp hk
  match k, hk with
  | 0, _ => exact mT_at 229 rfl rfl
  | 1, _ => exact mT_at 231 rfl rfl
  | 2, _ => exact mT_at 233 rfl rfl
  | 3, _ => exact mT_at 235 rfl rfl
  | k + 4, h => exact absurd h (by omega)
set_option maxRecDepth 20000 in
theorem inX_X4 : ∀ w ∈ u_ws RX4 TX4 10, w ∈ mT := by
  intro w hw
  obtain ⟨k, hk, rfl⟩ := List.mem_map.mp hw
  have hk := List.mem_range.mp hk
  match k, hk with
  | 0, _ => exact mT_at 146 rfl rfl
  | 1, _ => exact mT_at 148 rfl rfl
  | 2, _ => exact mT_at 150 rfl rfl
  | 3, _ => exact mT_at 152 rfl rfl
  | 4, _ => exact mT_at 154 rfl rfl
  | 5, _ => exact mT_at 156 rfl rfl
  | 6, _ => exact mT_at 158 rfl rfl
  | 7, _ => exact mT_at 160 rfl rfl
  | 8, _ => exact mT_at 162 rfl rfl
  | 9, _ => exact mT_at 164 rfl rfl
  | k + 10, h => exact absurd h (by omega)
set_option maxRecDepth 20000 in
theorem inX_X5 : ∀ w ∈ u_ws RX5 TX5 5, w ∈ mT := by
  intro w hw
  obtain ⟨k, hk, rfl⟩ := List.mem_map.mp hw
  have hk := List.mem_range.mp hk
  match k, hk with
  | 0, _ => exact mT_at 197 rfl rfl
  | 1, _ => exact mT_at 199 rfl rfl
  | 2, _ => exact mT_at 201 rfl rfl
  | 3, _ => exact mT_at 203 rfl rfl
  | 4, _ => exact mT_at 205 rfl rfl
  | k + 5, h => exact absurd h (by omega)
set_option maxRecDepth 20000 in
theorem inX_X6 : ∀ w ∈ u_ws RX6 TX6 3, w ∈ mT := by
  intro w hw
  obtain ⟨k, hk, rfl⟩ := List.mem_map.mp hw
  have hk := List.mem_range.mp hk
  match k, hk with
  | 0, _ => exact mT_at 116 rfl rfl
  | 1, _ => exact mT_at 118 rfl rfl
  | 2, _ => exact mT_at 120 rfl rfl
  | k + 3, h => exact absurd h (by omega)
set_option maxRecDepth 20000 in
theorem inX_X7 : ∀ w ∈ u_ws RX7 TX7 2, w ∈ mT := by
  intro w hw
  obtain ⟨k, hk, rfl⟩ := List.mem_map.mp hw
  have hk := List.mem_range.mp hk
  match k, hk with
  | 0, _ => exact mT_at 179 rfl rfl
  | 1, _ => exact mT_at 181 rfl rfl
  | k + 2, h => exact absurd h (by omega)
set_option maxRecDepth 20000 in
theorem inX_X8 : ∀ w ∈ u_ws RX8 TX8 10, w ∈ mT := by
  intro w hw
  obtain ⟨k, hk, rfl⟩ := List.mem_map.mp hw
  have hk := List.mem_range.mp hk
  match k, hk with
  | 0, _ => exact mT_at 248 rfl rfl
  | 1, _ => exact mT_at 250 rfl rfl
  | 2, _ => exact mT_at 252 rfl rfl
  | 3, _ => exact mT_at 254 rfl rfl
  | 4, _ => exact mT_at 256 rfl rfl
  | 5, _ => exact mT_at 258 rfl rfl
  | 6, _ => exact mT_at 260 rfl rfl
  | 7, _ => exact mT_at 262 rfl rfl
  | 8, _ => exact mT_at 264 rfl rfl
  | 9, _ => exact mT_at 266 rfl rfl
  | k + 10, h => exact absurd h (by omega)
set_option maxRecDepth 20000 in
theorem inX_X9 : ∀ w ∈ u_ws RX9 TX9 23, w ∈ mT := by
  intro w hw
  obtain ⟨k, hk, rfl⟩ := List.mem_map.mp hw
  have hk := List.mem_range.mp hk
  match k, hk with
  | 0, _ => exact mT_at 698 rfl rfl
  | 1, _ => exact mT_at 700 rfl rfl
  | 2, _ => exact mT_at 702 rfl rfl
  | 3, _ => exact mT_at 704 rfl rfl
  | 4, _ => exact mT_at 706 rfl rfl
  | 5, _ => exact mT_at 708 rfl rfl
  | 6, _ => exact mT_at 710 rfl rfl
  | 7, _ => exact mT_at 712 rfl rfl
  | 8, _ => exact mT_at 714 rfl rfl
  | 9, _ => exact mT_at 716 rfl rfl
  | 10, _ => exact mT_at 718 rfl rfl
  | 11, _ => exact mT_at 720 rfl rfl
  | 12, _ => exact mT_at 722 rfl rfl
  | 13, _ => exact mT_at 724 rfl rfl
  | 14, _ => exact mT_at 726 rfl rfl
  | 15, _ => exact mT_at 728 rfl rfl
  | 16, _ => exact mT_at 730 rfl rfl
  | 17, _ => exact mT_at 732 rfl rfl
  | 18, _ => exact mT_at 734 rfl rfl
  | 19, _ => exact mT_at 736 rfl rfl
  | 20, _ => exact mT_at 738 rfl rfl
  | 21, _ => exact mT_at 740 rfl rfl
  | 22, _ => exact mT_at 742 rfl rfl
  | k + 23, h => exact absurd h (by omega)
set_option maxRecDepth 20000 in
theorem flX0_12 : mFl RX0 12 0 0 RX0 TX0 3 := ⟨rfl, by decide, rfl, mT_at 94 rfl rfl, inX_X0⟩
set_option maxRecDepth 20000 in
theorem flX0_18 : mFl RX0 18 0 1 RX0 TX0 3 := ⟨rfl, by decide, rfl, mT_at 96 rfl rfl, inX_X0⟩
set_option maxRecDepth 20000 in
theorem flX0_22 : mFl RX0 22 0 2 RX0 TX0 3 := ⟨rfl, by decide, rfl, mT_at 97 rfl rfl, inX_X0⟩
set_option maxRecDepth 20000 in
theorem flX0_25 : mFl RX0 25 2 1 RX2 TX2 2 := ⟨rfl, by decide, rfl, mT_at 79 rfl rfl, inX_X2⟩
set_option maxRecDepth 20000 in
theorem flX0_47 : mFl RX0 47 2 0 RX2 TX2 2 := ⟨rfl, by decide, rfl, mT_at 77 rfl rfl, inX_X2⟩
set_option maxRecDepth 20000 in
theorem flX0_55 : mFl RX0 55 1 3 RX1 TX1 8 := ⟨rfl, by decide, rfl, mT_at 44 rfl rfl, inX_X1⟩
set_option maxRecDepth 20000 in
theorem flX1_9 : mFl RX1 9 1 2 RX1 TX1 8 := ⟨rfl, by decide, rfl, mT_at 41 rfl rfl, inX_X1⟩
set_option maxRecDepth 20000 in
theorem flX1_15 : mFl RX1 15 1 4 RX1 TX1 8 := ⟨rfl, by decide, rfl, mT_at 46 rfl rfl, inX_X1⟩
set_option maxRecDepth 20000 in
theorem flX1_19 : mFl RX1 19 1 5 RX1 TX1 8 := ⟨rfl, by decide, rfl, mT_at 49 rfl rfl, inX_X1⟩
set_option maxRecDepth 20000 in
theorem flX1_22 : mFl RX1 22 1 6 RX1 TX1 8 := ⟨rfl, by decide, rfl, mT_at 52 rfl rfl, inX_X1⟩
set_option maxRecDepth 20000 in
theorem flX1_25 : mFl RX1 25 1 7 RX1 TX1 8 := ⟨rfl, by decide, rfl, mT_at 55 rfl rfl, inX_X1⟩
set_option maxRecDepth 20000 in
theorem flX1_28 : mFl RX1 28 1 0 RX1 TX1 8 := ⟨rfl, by decide, rfl, mT_at 37 rfl rfl, inX_X1⟩
set_option maxRecDepth 20000 in
theorem flX1_31 : mFl RX1 31 1 1 RX1 TX1 8 := ⟨rfl, by decide, rfl, mT_at 39 rfl rfl, inX_X1⟩
set_option maxRecDepth 20000 in
theorem flX1_34 : mFl RX1 34 1 3 RX1 TX1 8 := ⟨rfl, by decide, rfl, mT_at 43 rfl rfl, inX_X1⟩
set_option maxRecDepth 20000 in
theorem flX2_11 : mFl RX2 11 2 0 RX2 TX2 2 := ⟨rfl, by decide, rfl, mT_at 76 rfl rfl, inX_X2⟩
set_option maxRecDepth 20000 in
theorem flX2_18 : mFl RX2 18 2 1 RX2 TX2 2 := ⟨rfl, by decide, rfl, mT_at 78 rfl rfl, inX_X2⟩
set_option maxRecDepth 20000 in
theorem flX3_9 : mFl RX3 9 3 0 RX3 TX3 4 := ⟨rfl, by decide, rfl, mT_at 220 rfl rfl, inX_X3⟩
set_option maxRecDepth 20000 in
theorem flX3_15 : mFl RX3 15 3 1 RX3 TX3 4 := ⟨rfl, by decide, rfl, mT_at 222 rfl rfl, inX_X3⟩
set_option maxRecDepth 20000 in
theorem flX3_18 : mFl RX3 18 3 2 RX3 TX3 4 := ⟨rfl, by decide, rfl, mT_at 224 rfl rfl, inX_X3⟩
set_option maxRecDepth 20000 in
theorem flX3_21 : mFl RX3 21 3 3 RX3 TX3 4 := ⟨rfl, by decide, rfl, mT_at 226 rfl rfl, inX_X3⟩
set_option maxRecDepth 20000 in
theorem flX3_44 : mFl RX3 44 1 4 RX1 TX1 8 := ⟨rfl, by decide, rfl, mT_at 47 rfl rfl, inX_X1⟩
set_option maxRecDepth 20000 in
theorem flX3_51 : mFl RX3 51 1 5 RX1 TX1 8 := ⟨rfl, by decide, rfl, mT_at 50 rfl rfl, inX_X1⟩
set_option maxRecDepth 20000 in
theorem flX3_54 : mFl RX3 54 1 6 RX1 TX1 8 := ⟨rfl, by decide, rfl, mT_at 53 rfl rfl, inX_X1⟩
set_option maxRecDepth 20000 in
theorem flX3_57 : mFl RX3 57 1 7 RX1 TX1 8 := ⟨rfl, by decide, rfl, mT_at 56 rfl rfl, inX_X1⟩
set_option maxRecDepth 20000 in
theorem flX4_11 : mFl RX4 11 4 0 RX4 TX4 10 := ⟨rfl, by decide, rfl, mT_at 133 rfl rfl, inX_X4⟩
set_option maxRecDepth 20000 in
theorem flX4_16 : mFl RX4 16 4 1 RX4 TX4 10 := ⟨rfl, by decide, rfl, mT_at 135 rfl rfl, inX_X4⟩
set_option maxRecDepth 20000 in
theorem flX4_22 : mFl RX4 22 4 3 RX4 TX4 10 := ⟨rfl, by decide, rfl, mT_at 139 rfl rfl, inX_X4⟩
set_option maxRecDepth 20000 in
theorem flX4_25 : mFl RX4 25 4 4 RX4 TX4 10 := ⟨rfl, by decide, rfl, mT_at 140 rfl rfl, inX_X4⟩
set_option maxRecDepth 20000 in
theorem flX4_28 : mFl RX4 28 4 5 RX4 TX4 10 := ⟨rfl, by decide, rfl, mT_at 141 rfl rfl, inX_X4⟩
set_option maxRecDepth 20000 in
theorem flX4_32 : mFl RX4 32 4 6 RX4 TX4 10 := ⟨rfl, by decide, rfl, mT_at 142 rfl rfl, inX_X4⟩
set_option maxRecDepth 20000 in
theorem flX4_35 : mFl RX4 35 4 7 RX4 TX4 10 := ⟨rfl, by decide, rfl, mT_at 143 rfl rfl, inX_X4⟩
set_option maxRecDepth 20000 in
theorem flX4_38 : mFl RX4 38 4 8 RX4 TX4 10 := ⟨rfl, by decide, rfl, mT_at 144 rfl rfl, inX_X4⟩
set_option maxRecDepth 20000 in
theorem flX4_41 : mFl RX4 41 4 9 RX4 TX4 10 := ⟨rfl, by decide, rfl, mT_at 145 rfl rfl, inX_X4⟩
set_option maxRecDepth 20000 in
theorem flX4_55 : mFl RX4 55 4 2 RX4 TX4 10 := ⟨rfl, by decide, rfl, mT_at 137 rfl rfl, inX_X4⟩
set_option maxRecDepth 20000 in
theorem flX5_9 : mFl RX5 9 5 0 RX5 TX5 5 := ⟨rfl, by decide, rfl, mT_at 191 rfl rfl, inX_X5⟩
set_option maxRecDepth 20000 in
theorem flX5_15 : mFl RX5 15 5 4 RX5 TX5 5 := ⟨rfl, by decide, rfl, mT_at 195 rfl rfl, inX_X5⟩
set_option maxRecDepth 20000 in
theorem flX5_25 : mFl RX5 25 5 1 RX5 TX5 5 := ⟨rfl, by decide, rfl, mT_at 192 rfl rfl, inX_X5⟩
set_option maxRecDepth 20000 in
theorem flX5_28 : mFl RX5 28 5 2 RX5 TX5 5 := ⟨rfl, by decide, rfl, mT_at 193 rfl rfl, inX_X5⟩
set_option maxRecDepth 20000 in
theorem flX5_49 : mFl RX5 49 3 0 RX3 TX3 4 := ⟨rfl, by decide, rfl, mT_at 221 rfl rfl, inX_X3⟩
set_option maxRecDepth 20000 in
theorem flX5_58 : mFl RX5 58 3 1 RX3 TX3 4 := ⟨rfl, by decide, rfl, mT_at 223 rfl rfl, inX_X3⟩
set_option maxRecDepth 20000 in
theorem flX5_62 : mFl RX5 62 3 2 RX3 TX3 4 := ⟨rfl, by decide, rfl, mT_at 225 rfl rfl, inX_X3⟩
set_option maxRecDepth 20000 in
theorem flX5_66 : mFl RX5 66 3 3 RX3 TX3 4 := ⟨rfl, by decide, rfl, mT_at 227 rfl rfl, inX_X3⟩
set_option maxRecDepth 20000 in
theorem flX5_83 : mFl RX5 83 5 3 RX5 TX5 5 := ⟨rfl, by decide, rfl, mT_at 194 rfl rfl, inX_X5⟩
set_option maxRecDepth 20000 in
theorem flX6_9 : mFl RX6 9 6 0 RX6 TX6 3 := ⟨rfl, by decide, rfl, mT_at 112 rfl rfl, inX_X6⟩
set_option maxRecDepth 20000 in
theorem flX6_15 : mFl RX6 15 6 1 RX6 TX6 3 := ⟨rfl, by decide, rfl, mT_at 113 rfl rfl, inX_X6⟩
set_option maxRecDepth 20000 in
theorem flX6_18 : mFl RX6 18 6 2 RX6 TX6 3 := ⟨rfl, by decide, rfl, mT_at 114 rfl rfl, inX_X6⟩
set_option maxRecDepth 20000 in
theorem flX7_9 : mFl RX7 9 7 0 RX7 TX7 2 := ⟨rfl, by decide, rfl, mT_at 175 rfl rfl, inX_X7⟩
set_option maxRecDepth 20000 in
theorem flX7_15 : mFl RX7 15 7 1 RX7 TX7 2 := ⟨rfl, by decide, rfl, mT_at 177 rfl rfl, inX_X7⟩
set_option maxRecDepth 20000 in
theorem flX8_10 : mFl RX8 10 8 0 RX8 TX8 10 := ⟨rfl, by decide, rfl, mT_at 238 rfl rfl, inX_X8⟩
set_option maxRecDepth 20000 in
theorem flX8_19 : mFl RX8 19 8 1 RX8 TX8 10 := ⟨rfl, by decide, rfl, mT_at 239 rfl rfl, inX_X8⟩
set_option maxRecDepth 20000 in
theorem flX8_26 : mFl RX8 26 8 2 RX8 TX8 10 := ⟨rfl, by decide, rfl, mT_at 240 rfl rfl, inX_X8⟩
set_option maxRecDepth 20000 in
theorem flX8_33 : mFl RX8 33 8 3 RX8 TX8 10 := ⟨rfl, by decide, rfl, mT_at 241 rfl rfl, inX_X8⟩
set_option maxRecDepth 20000 in
theorem flX8_40 : mFl RX8 40 8 4 RX8 TX8 10 := ⟨rfl, by decide, rfl, mT_at 242 rfl rfl, inX_X8⟩
set_option maxRecDepth 20000 in
theorem flX8_47 : mFl RX8 47 8 5 RX8 TX8 10 := ⟨rfl, by decide, rfl, mT_at 243 rfl rfl, inX_X8⟩
set_option maxRecDepth 20000 in
theorem flX8_54 : mFl RX8 54 8 6 RX8 TX8 10 := ⟨rfl, by decide, rfl, mT_at 244 rfl rfl, inX_X8⟩
set_option maxRecDepth 20000 in
theorem flX8_58 : mFl RX8 58 8 7 RX8 TX8 10 := ⟨rfl, by decide, rfl, mT_at 245 rfl rfl, inX_X8⟩
set_option maxRecDepth 20000 in
theorem flX8_64 : mFl RX8 64 8 8 RX8 TX8 10 := ⟨rfl, by decide, rfl, mT_at 246 rfl rfl, inX_X8⟩
set_option maxRecDepth 20000 in
theorem flX8_68 : mFl RX8 68 8 9 RX8 TX8 10 := ⟨rfl, by decide, rfl, mT_at 247 rfl rfl, inX_X8⟩
set_option maxRecDepth 20000 in
theorem flX8_75 : mFl RX8 75 0 0 RX0 TX0 3 := ⟨rfl, by decide, rfl, mT_at 95 rfl rfl, inX_X0⟩
set_option maxRecDepth 20000 in
theorem flX8_86 : mFl RX8 86 1 0 RX1 TX1 8 := ⟨rfl, by decide, rfl, mT_at 38 rfl rfl, inX_X1⟩
set_option maxRecDepth 20000 in
theorem flX8_90 : mFl RX8 90 1 1 RX1 TX1 8 := ⟨rfl, by decide, rfl, mT_at 40 rfl rfl, inX_X1⟩
set_option maxRecDepth 20000 in
theorem flX8_93 : mFl RX8 93 1 2 RX1 TX1 8 := ⟨rfl, by decide, rfl, mT_at 42 rfl rfl, inX_X1⟩
set_option maxRecDepth 20000 in
theorem flX8_96 : mFl RX8 96 1 4 RX1 TX1 8 := ⟨rfl, by decide, rfl, mT_at 48 rfl rfl, inX_X1⟩
set_option maxRecDepth 20000 in
theorem flX8_100 : mFl RX8 100 1 5 RX1 TX1 8 := ⟨rfl, by decide, rfl, mT_at 51 rfl rfl, inX_X1⟩
set_option maxRecDepth 20000 in
theorem flX8_103 : mFl RX8 103 1 7 RX1 TX1 8 := ⟨rfl, by decide, rfl, mT_at 57 rfl rfl, inX_X1⟩
set_option maxRecDepth 20000 in
theorem flX8_106 : mFl RX8 106 1 6 RX1 TX1 8 := ⟨rfl, by decide, rfl, mT_at 54 rfl rfl, inX_X1⟩
set_option maxRecDepth 20000 in
theorem flX8_126 : mFl RX8 126 1 3 RX1 TX1 8 := ⟨rfl, by decide, rfl, mT_at 45 rfl rfl, inX_X1⟩
set_option maxRecDepth 20000 in
theorem flX8_146 : mFl RX8 146 0 2 RX0 TX0 3 := ⟨rfl, by decide, rfl, mT_at 98 rfl rfl, inX_X0⟩
set_option maxRecDepth 20000 in
theorem flX8_174 : mFl RX8 174 4 2 RX4 TX4 10 := ⟨rfl, by decide, rfl, mT_at 138 rfl rfl, inX_X4⟩
set_option maxRecDepth 20000 in
theorem flX8_177 : mFl RX8 177 4 1 RX4 TX4 10 := ⟨rfl, by decide, rfl, mT_at 136 rfl rfl, inX_X4⟩
set_option maxRecDepth 20000 in
theorem flX8_192 : mFl RX8 192 4 0 RX4 TX4 10 := ⟨rfl, by decide, rfl, mT_at 134 rfl rfl, inX_X4⟩
set_option maxRecDepth 20000 in
theorem flX8_196 : mFl RX8 196 3 3 RX3 TX3 4 := ⟨rfl, by decide, rfl, mT_at 228 rfl rfl, inX_X3⟩
set_option maxRecDepth 20000 in
theorem flX8_209 : mFl RX8 209 7 1 RX7 TX7 2 := ⟨rfl, by decide, rfl, mT_at 178 rfl rfl, inX_X7⟩
set_option maxRecDepth 20000 in
theorem flX8_212 : mFl RX8 212 7 0 RX7 TX7 2 := ⟨rfl, by decide, rfl, mT_at 176 rfl rfl, inX_X7⟩
set_option maxRecDepth 20000 in
theorem flX8_220 : mFl RX8 220 5 4 RX5 TX5 5 := ⟨rfl, by decide, rfl, mT_at 196 rfl rfl, inX_X5⟩
set_option maxRecDepth 20000 in
theorem flX8_223 : mFl RX8 223 2 1 RX2 TX2 2 := ⟨rfl, by decide, rfl, mT_at 80 rfl rfl, inX_X2⟩
set_option maxRecDepth 20000 in
theorem flX8_232 : mFl RX8 232 6 2 RX6 TX6 3 := ⟨rfl, by decide, rfl, mT_at 115 rfl rfl, inX_X6⟩
set_option maxRecDepth 20000 in
theorem flX9_7 : mFl RX9 7 9 0 RX9 TX9 23 := ⟨rfl, by decide, rfl, mT_at 675 rfl rfl, inX_X9⟩
set_option maxRecDepth 20000 in
theorem flX9_13 : mFl RX9 13 9 1 RX9 TX9 23 := ⟨rfl, by decide, rfl, mT_at 676 rfl rfl, inX_X9⟩
set_option maxRecDepth 20000 in
theorem flX9_16 : mFl RX9 16 9 2 RX9 TX9 23 := ⟨rfl, by decide, rfl, mT_at 677 rfl rfl, inX_X9⟩
set_option maxRecDepth 20000 in
theorem flX9_19 : mFl RX9 19 9 3 RX9 TX9 23 := ⟨rfl, by decide, rfl, mT_at 678 rfl rfl, inX_X9⟩
set_option maxRecDepth 20000 in
theorem flX9_22 : mFl RX9 22 9 4 RX9 TX9 23 := ⟨rfl, by decide, rfl, mT_at 679 rfl rfl, inX_X9⟩
set_option maxRecDepth 20000 in
theorem flX9_25 : mFl RX9 25 9 5 RX9 TX9 23 := ⟨rfl, by decide, rfl, mT_at 680 rfl rfl, inX_X9⟩
set_option maxRecDepth 20000 in
theorem flX9_28 : mFl RX9 28 9 6 RX9 TX9 23 := ⟨rfl, by decide, rfl, mT_at 681 rfl rfl, inX_X9⟩
set_option maxRecDepth 20000 in
theorem flX9_31 : mFl RX9 31 9 7 RX9 TX9 23 := ⟨rfl, by decide, rfl, mT_at 682 rfl rfl, inX_X9⟩
set_option maxRecDepth 20000 in
theorem flX9_35 : mFl RX9 35 9 8 RX9 TX9 23 := ⟨rfl, by decide, rfl, mT_at 683 rfl rfl, inX_X9⟩
set_option maxRecDepth 20000 in
theorem flX9_38 : mFl RX9 38 9 9 RX9 TX9 23 := ⟨rfl, by decide, rfl, mT_at 684 rfl rfl, inX_X9⟩
set_option maxRecDepth 20000 in
theorem flX9_41 : mFl RX9 41 9 11 RX9 TX9 23 := ⟨rfl, by decide, rfl, mT_at 686 rfl rfl, inX_X9⟩
set_option maxRecDepth 20000 in
theorem flX9_44 : mFl RX9 44 9 12 RX9 TX9 23 := ⟨rfl, by decide, rfl, mT_at 687 rfl rfl, inX_X9⟩
set_option maxRecDepth 20000 in
theorem flX9_47 : mFl RX9 47 9 13 RX9 TX9 23 := ⟨rfl, by decide, rfl, mT_at 688 rfl rfl, inX_X9⟩
set_option maxRecDepth 20000 in
theorem flX9_50 : mFl RX9 50 9 14 RX9 TX9 23 := ⟨rfl, by decide, rfl, mT_at 689 rfl rfl, inX_X9⟩
set_option maxRecDepth 20000 in
theorem flX9_53 : mFl RX9 53 9 15 RX9 TX9 23 := ⟨rfl, by decide, rfl, mT_at 690 rfl rfl, inX_X9⟩
set_option maxRecDepth 20000 in
theorem flX9_57 : mFl RX9 57 9 16 RX9 TX9 23 := ⟨rfl, by decide, rfl, mT_at 691 rfl rfl, inX_X9⟩
set_option maxRecDepth 20000 in
theorem flX9_60 : mFl RX9 60 9 20 RX9 TX9 23 := ⟨rfl, by decide, rfl, mT_at 695 rfl rfl, inX_X9⟩
set_option maxRecDepth 20000 in
theorem flX9_142 : mFl RX9 142 9 10 RX9 TX9 23 := ⟨rfl, by decide, rfl, mT_at 685 rfl rfl, inX_X9⟩
set_option maxRecDepth 20000 in
theorem flX9_154 : mFl RX9 154 9 17 RX9 TX9 23 := ⟨rfl, by decide, rfl, mT_at 692 rfl rfl, inX_X9⟩
set_option maxRecDepth 20000 in
theorem flX9_161 : mFl RX9 161 9 19 RX9 TX9 23 := ⟨rfl, by decide, rfl, mT_at 694 rfl rfl, inX_X9⟩
set_option maxRecDepth 20000 in
theorem flX9_164 : mFl RX9 164 9 18 RX9 TX9 23 := ⟨rfl, by decide, rfl, mT_at 693 rfl rfl, inX_X9⟩
set_option maxRecDepth 20000 in
theorem flX9_170 : mFl RX9 170 9 21 RX9 TX9 23 := ⟨rfl, by decide, rfl, mT_at 696 rfl rfl, inX_X9⟩
set_option maxRecDepth 20000 in
theorem flX9_177 : mFl RX9 177 9 22 RX9 TX9 23 := ⟨rfl, by decide, rfl, mT_at 697 rfl rfl, inX_X9⟩
set_option maxRecDepth 20000 in
theorem puX1_9 : mPu RX1 9 1 2 RX1 TX1 8 tyX1 .int false := ⟨flX1_9, tyX1_ok, nmX1, rfl, tyX1_ok 2 (by decide)⟩
set_option maxRecDepth 20000 in
theorem puX1_28 : mPu RX1 28 1 0 RX1 TX1 8 tyX1 .int false := ⟨flX1_28, tyX1_ok, nmX1, rfl, tyX1_ok 0 (by decide)⟩
set_option maxRecDepth 20000 in
theorem puX1_31 : mPu RX1 31 1 1 RX1 TX1 8 tyX1 .int false := ⟨flX1_31, tyX1_ok, nmX1, rfl, tyX1_ok 1 (by decide)⟩
set_option maxRecDepth 20000 in
theorem puX1_34 : mPu RX1 34 1 3 RX1 TX1 8 tyX1 .int false := ⟨flX1_34, tyX1_ok, nmX1, rfl, tyX1_ok 3 (by decide)⟩
set_option maxRecDepth 20000 in
theorem puX2_18 : mPu RX2 18 2 1 RX2 TX2 2 tyX2 .int false := ⟨flX2_18, tyX2_ok, nmX2, rfl, tyX2_ok 1 (by decide)⟩
set_option maxRecDepth 20000 in
theorem puX4_55 : mPu RX4 55 4 2 RX4 TX4 10 tyX4 .int false := ⟨flX4_55, tyX4_ok, nmX4, rfl, tyX4_ok 2 (by decide)⟩
set_option maxRecDepth 20000 in
theorem puX5_9 : mPu RX5 9 5 0 RX5 TX5 5 tyX5 (tyX5 0) false := ⟨flX5_9, tyX5_ok, nmX5, rfl, tyX5_ok 0 (by decide)⟩
set_option maxRecDepth 20000 in
theorem puX5_15 : mPu RX5 15 5 4 RX5 TX5 5 tyX5 .int false := ⟨flX5_15, tyX5_ok, nmX5, rfl, tyX5_ok 4 (by decide)⟩
set_option maxRecDepth 20000 in
theorem puX5_25 : mPu RX5 25 5 1 RX5 TX5 5 tyX5 .int false := ⟨flX5_25, tyX5_ok, nmX5, rfl, tyX5_ok 1 (by decide)⟩
set_option maxRecDepth 20000 in
theorem puX5_28 : mPu RX5 28 5 2 RX5 TX5 5 tyX5 .int false := ⟨flX5_28, tyX5_ok, nmX5, rfl, tyX5_ok 2 (by decide)⟩
set_option maxRecDepth 20000 in
theorem puX5_83 : mPu RX5 83 5 3 RX5 TX5 5 tyX5 .int false := ⟨flX5_83, tyX5_ok, nmX5, rfl, tyX5_ok 3 (by decide)⟩
set_option maxRecDepth 20000 in
theorem puX6_18 : mPu RX6 18 6 2 RX6 TX6 3 tyX6 .int false := ⟨flX6_18, tyX6_ok, nmX6, rfl, tyX6_ok 2 (by decide)⟩
set_option maxRecDepth 20000 in
theorem puX7_15 : mPu RX7 15 7 1 RX7 TX7 2 tyX7 .int false := ⟨flX7_15, tyX7_ok, nmX7, rfl, tyX7_ok 1 (by decide)⟩
set_option maxRecDepth 20000 in
theorem puX8_64 : mPu RX8 64 8 8 RX8 TX8 10 tyX8 (tyX8 8) false := ⟨flX8_64, tyX8_ok, nmX8, rfl, tyX8_ok 8 (by decide)⟩
set_option maxRecDepth 20000 in
theorem puX8_68 : mPu RX8 68 8 9 RX8 TX8 10 tyX8 (tyX8 9) false := ⟨flX8_68, tyX8_ok, nmX8, rfl, tyX8_ok 9 (by decide)⟩
set_option maxRecDepth 20000 in
theorem puX8_86 : mPu RX8 86 1 0 RX1 TX1 8 tyX1 .int false := ⟨flX8_86, tyX1_ok, nmX1, rfl, tyX1_ok 0 (by decide)⟩
set_option maxRecDepth 20000 in
theorem puX8_90 : mPu RX8 90 1 1 RX1 TX1 8 tyX1 .int false := ⟨flX8_90, tyX1_ok, nmX1, rfl, tyX1_ok 1 (by decide)⟩
set_option maxRecDepth 20000 in
theorem puX8_93 : mPu RX8 93 1 2 RX1 TX1 8 tyX1 .int false := ⟨flX8_93, tyX1_ok, nmX1, rfl, tyX1_ok 2 (by decide)⟩
set_option maxRecDepth 20000 in
theorem puX8_126 : mPu RX8 126 1 3 RX1 TX1 8 tyX1 .int false := ⟨flX8_126, tyX1_ok, nmX1, rfl, tyX1_ok 3 (by decide)⟩
set_option maxRecDepth 20000 in
theorem puX8_209 : mPu RX8 209 7 1 RX7 TX7 2 tyX7 .int false := ⟨flX8_209, tyX7_ok, nmX7, rfl, tyX7_ok 1 (by decide)⟩
set_option maxRecDepth 20000 in
theorem puX9_60 : mPu RX9 60 9 20 RX9 TX9 23 tyX9 .int false := ⟨flX9_60, tyX9_ok, nmX9, rfl, tyX9_ok 20 (by decide)⟩
set_option maxRecDepth 20000 in
theorem puX9_142 : mPu RX9 142 9 10 RX9 TX9 23 tyX9 .int false := ⟨flX9_142, tyX9_ok, nmX9, rfl, tyX9_ok 10 (by decide)⟩
set_option maxRecDepth 20000 in
theorem puX9_154 : mPu RX9 154 9 17 RX9 TX9 23 tyX9 .int false := ⟨flX9_154, tyX9_ok, nmX9, rfl, tyX9_ok 17 (by decide)⟩
set_option maxRecDepth 20000 in
theorem puX9_161 : mPu RX9 161 9 19 RX9 TX9 23 tyX9 .int false := ⟨flX9_161, tyX9_ok, nmX9, rfl, tyX9_ok 19 (by decide)⟩
set_option maxRecDepth 20000 in
theorem puX9_164 : mPu RX9 164 9 18 RX9 TX9 23 tyX9 .int false := ⟨flX9_164, tyX9_ok, nmX9, rfl, tyX9_ok 18 (by decide)⟩
set_option maxRecDepth 20000 in
theorem puX9_170 : mPu RX9 170 9 21 RX9 TX9 23 tyX9 .int false := ⟨flX9_170, tyX9_ok, nmX9, rfl, tyX9_ok 21 (by decide)⟩
set_option maxRecDepth 20000 in
theorem puX9_177 : mPu RX9 177 9 22 RX9 TX9 23 tyX9 .int false := ⟨flX9_177, tyX9_ok, nmX9, rfl, tyX9_ok 22 (by decide)⟩
set_option maxRecDepth 20000 in
theorem clX0_29 : mCV RX0 29 RX0 yX0_leaderOf cX0_leaderOf 2 (some .int) 1 := ⟨mT_at 322 rfl rfl, mT_at 323 rfl rfl, mT_at 324 rfl rfl, mT_at 4 rfl rfl, mT_at 325 rfl rfl, rfl, by decide, by decide, by decide +kernel⟩
set_option maxRecDepth 20000 in
theorem clX0_42 : mCV RX0 42 RX1 yX1_forget cX1_forget 1 none 0 := ⟨mT_at 335 rfl rfl, mT_at 336 rfl rfl, mT_at 337 rfl rfl, mT_at 3 rfl rfl, mT_at 338 rfl rfl, rfl, by decide, by decide, by decide +kernel⟩
set_option maxRecDepth 20000 in
theorem clX0_51 : mCV RX0 51 RX1 yX1_learn cX1_learn 2 none 1 := ⟨mT_at 342 rfl rfl, mT_at 343 rfl rfl, mT_at 344 rfl rfl, mT_at 3 rfl rfl, mT_at 345 rfl rfl, rfl, by decide, by decide, by decide +kernel⟩
set_option maxRecDepth 20000 in
theorem clX0_58 : mCV RX0 58 RX0 yX0_leads cX0_leads 2 (some .boolean) 1 := ⟨mT_at 655 rfl rfl, mT_at 450 rfl rfl, mT_at 451 rfl rfl, mT_at 4 rfl rfl, mT_at 452 rfl rfl, rfl, by decide, by decide, by decide +kernel⟩
set_option maxRecDepth 20000 in
theorem clX1_37 : mCS RX1 37 yX1_forgetRow cX1_forgetRow 2 none 1 := ⟨mT_at 339 rfl rfl, mT_at 340 rfl rfl, mT_at 3 rfl rfl, mT_at 341 rfl rfl, by decide, by decide, by decide +kernel⟩
set_option maxRecDepth 20000 in
theorem clX1_50 : mCS RX1 50 yX1_learnRow cX1_learnRow 3 none 2 := ⟨mT_at 348 rfl rfl, mT_at 349 rfl rfl, mT_at 3 rfl rfl, mT_at 350 rfl rfl, by decide, by decide, by decide +kernel⟩
set_option maxRecDepth 20000 in
theorem clX1_54 : mCN RX1 54 cX8_within 3 (some .boolean) 3 := ⟨by decide, mT_at 290 rfl rfl, mT_at 1 rfl rfl, mT_at 291 rfl rfl, by decide, by decide, by decide +kernel⟩
set_option maxRecDepth 20000 in
theorem clX1_58 : mCV RX1 58 RX1 yX1_sexUnlike cX1_sexUnlike 2 (some .boolean) 1 := ⟨mT_at 403 rfl rfl, mT_at 352 rfl rfl, mT_at 353 rfl rfl, mT_at 3 rfl rfl, mT_at 354 rfl rfl, rfl, by decide, by decide, by decide +kernel⟩
set_option maxRecDepth 20000 in
theorem clX1_62 : mCV RX1 62 RX1 yX1_ageMeets cX1_ageMeets 2 (some .boolean) 1 := ⟨mT_at 404 rfl rfl, mT_at 356 rfl rfl, mT_at 357 rfl rfl, mT_at 3 rfl rfl, mT_at 358 rfl rfl, rfl, by decide, by decide, by decide +kernel⟩
set_option maxRecDepth 20000 in
theorem clX1_65 : mCV RX1 65 RX1 yX1_toothCameBack cX1_toothCameBack 3 (some .boolean) 1 := ⟨mT_at 405 rfl rfl, mT_at 407 rfl rfl, mT_sat 2 rfl rfl, mT_at 3 rfl rfl, mT_at 408 rfl rfl, rfl, by decide, by decide, by decide +kernel⟩
set_option maxRecDepth 20000 in
theorem clX1_68 : mCV RX1 68 RX1 yX1_sheetUnlike cX1_sheetUnlike 5 (some .boolean) 1 := ⟨mT_at 409 rfl rfl, mT_at 360 rfl rfl, mT_at 361 rfl rfl, mT_at 3 rfl rfl, mT_at 362 rfl rfl, rfl, by decide, by decide, by decide +kernel⟩
set_option maxRecDepth 20000 in
theorem clX1_71 : mCV RX1 71 RX1 yX1_strangeToParent cX1_strangeToParent 5 (some .boolean) 1 := ⟨mT_at 410 rfl rfl, mT_at 412 rfl rfl, mT_sat 3 rfl rfl, mT_at 3 rfl rfl, mT_at 413 rfl rfl, rfl, by decide, by decide, by decide +kernel⟩
set_option maxRecDepth 20000 in
theorem clX1_74 : mCS RX1 74 yX1_has cX1_has 2 (some .boolean) 2 := ⟨mT_at 414 rfl rfl, mT_at 415 rfl rfl, mT_at 3 rfl rfl, mT_at 416 rfl rfl, by decide, by decide, by decide +kernel⟩
set_option maxRecDepth 20000 in
theorem clX3_27 : mCV RX3 27 RX1 yX1_barFrom cX1_barFrom 2 (some .int) 1 := ⟨mT_at 425 rfl rfl, mT_at 400 rfl rfl, mT_at 401 rfl rfl, mT_at 3 rfl rfl, mT_at 402 rfl rfl, rfl, by decide, by decide, by decide +kernel⟩
set_option maxRecDepth 20000 in
theorem clX3_34 : mCV RX3 34 RX3 yX3_weighTeeth cX3_weighTeeth 6 (some .int) 2 := ⟨mT_at 427 rfl rfl, mT_at 429 rfl rfl, mT_sat 4 rfl rfl, mT_at 9 rfl rfl, mT_at 430 rfl rfl, rfl, by decide, by decide, by decide +kernel⟩
set_option maxRecDepth 20000 in
theorem clX3_38 : mCV RX3 38 RX3 yX3_weighMarks cX3_weighMarks 5 (some .int) 2 := ⟨mT_at 432 rfl rfl, mT_at 434 rfl rfl, mT_sat 5 rfl rfl, mT_at 9 rfl rfl, mT_at 435 rfl rfl, rfl, by decide, by decide, by decide +kernel⟩
set_option maxRecDepth 20000 in
theorem clX3_41 : mCV RX3 41 RX3 yX3_weighSheets cX3_weighSheets 6 (some .int) 2 := ⟨mT_at 436 rfl rfl, mT_at 438 rfl rfl, mT_sat 6 rfl rfl, mT_at 9 rfl rfl, mT_at 439 rfl rfl, rfl, by decide, by decide, by decide +kernel⟩
set_option maxRecDepth 20000 in
theorem clX3_47 : mCN RX3 47 cX8_within 3 (some .boolean) 3 := ⟨by decide, mT_at 290 rfl rfl, mT_at 1 rfl rfl, mT_at 291 rfl rfl, by decide, by decide, by decide +kernel⟩
set_option maxRecDepth 20000 in
theorem clX4_45 : mCV RX4 45 RX4 yX4_appraise cX4_appraise 6 none 0 := ⟨mT_at 461 rfl rfl, mT_at 463 rfl rfl, mT_sat 8 rfl rfl, mT_at 6 rfl rfl, mT_at 464 rfl rfl, rfl, by decide, by decide, by decide +kernel⟩
set_option maxRecDepth 20000 in
theorem clX4_48 : mCV RX4 48 RX4 yX4_place cX4_place 5 none 1 := ⟨mT_at 467 rfl rfl, mT_at 469 rfl rfl, mT_sat 9 rfl rfl, mT_at 6 rfl rfl, mT_at 470 rfl rfl, rfl, by decide, by decide, by decide +kernel⟩
set_option maxRecDepth 20000 in
theorem clX4_52 : mCV RX4 52 RX4 yX4_readOff cX4_readOff 3 none 0 := ⟨mT_at 484 rfl rfl, mT_at 486 rfl rfl, mT_sat 13 rfl rfl, mT_at 6 rfl rfl, mT_at 487 rfl rfl, rfl, by decide, by decide, by decide +kernel⟩
set_option maxRecDepth 20000 in
theorem clX4_59 : mCV RX4 59 RX4 yX4_settle cX4_settle 2 none 0 := ⟨mT_at 496 rfl rfl, mT_at 458 rfl rfl, mT_at 459 rfl rfl, mT_at 6 rfl rfl, mT_at 460 rfl rfl, rfl, by decide, by decide, by decide +kernel⟩
set_option maxRecDepth 20000 in
theorem clX4_68 : mCV RX4 68 RX4 yX4_measure cX4_measure 6 none 1 := ⟨mT_at 472 rfl rfl, mT_at 474 rfl rfl, mT_sat 10 rfl rfl, mT_at 6 rfl rfl, mT_at 475 rfl rfl, rfl, by decide, by decide, by decide +kernel⟩
set_option maxRecDepth 20000 in
theorem clX4_71 : mCV RX4 71 RX4 yX4_nearest cX4_nearest 3 (some .int) 0 := ⟨mT_at 476 rfl rfl, mT_at 478 rfl rfl, mT_sat 11 rfl rfl, mT_at 6 rfl rfl, mT_at 479 rfl rfl, rfl, by decide, by decide, by decide +kernel⟩
set_option maxRecDepth 20000 in
theorem clX4_75 : mCV RX4 75 RX4 yX4_shiftPrices cX4_shiftPrices 4 none 1 := ⟨mT_at 480 rfl rfl, mT_at 482 rfl rfl, mT_sat 12 rfl rfl, mT_at 6 rfl rfl, mT_at 483 rfl rfl, rfl, by decide, by decide, by decide +kernel⟩
set_option maxRecDepth 20000 in
theorem clX5_31 : mCV RX5 31 RX3 yX3_reset cX3_reset 2 none 0 := ⟨mT_at 553 rfl rfl, mT_at 217 rfl rfl, mT_at 218 rfl rfl, mT_at 9 rfl rfl, mT_at 219 rfl rfl, rfl, by decide, by decide, by decide +kernel⟩
set_option maxRecDepth 20000 in
theorem clX5_36 : mCV RX5 36 RX5 yX5_skipBlanks cX5_skipBlanks 1 none 0 := ⟨mT_at 554 rfl rfl, mT_at 556 rfl rfl, mT_sat 15 rfl rfl, mT_at 8 rfl rfl, mT_at 557 rfl rfl, rfl, by decide, by decide, by decide +kernel⟩
set_option maxRecDepth 20000 in
theorem clX5_39 : mCV RX5 39 RX5 yX5_takeStatement cX5_takeStatement 2 (some .boolean) 1 := ⟨mT_at 558 rfl rfl, mT_at 560 rfl rfl, mT_sat 16 rfl rfl, mT_at 8 rfl rfl, mT_at 561 rfl rfl, rfl, by decide, by decide, by decide +kernel⟩
set_option maxRecDepth 20000 in
theorem clX5_45 : mCV RX5 45 RX5 yX5_takeWord cX5_takeWord 4 (some .boolean) 1 := ⟨mT_at 563 rfl rfl, mT_at 565 rfl rfl, mT_sat 17 rfl rfl, mT_at 8 rfl rfl, mT_at 566 rfl rfl, rfl, by decide, by decide, by decide +kernel⟩
set_option maxRecDepth 20000 in
theorem clX5_52 : mCV RX5 52 RX5 yX5_takeEntry cX5_takeEntry 5 (some .boolean) 3 := ⟨mT_at 620 rfl rfl, mT_at 622 rfl rfl, mT_sat 19 rfl rfl, mT_at 8 rfl rfl, mT_at 623 rfl rfl, rfl, by decide, by decide, by decide +kernel⟩
set_option maxRecDepth 20000 in
theorem clX5_69 : mCV RX5 69 RX5 yX5_takeTerm cX5_takeTerm 5 (some .boolean) 4 := ⟨mT_at 636 rfl rfl, mT_at 638 rfl rfl, mT_sat 22 rfl rfl, mT_at 8 rfl rfl, mT_at 639 rfl rfl, rfl, by decide, by decide, by decide +kernel⟩
set_option maxRecDepth 20000 in
theorem clX5_79 : mCV RX5 79 RX5 yX5_takeNumber cX5_takeNumber 6 (some .boolean) 2 := ⟨mT_at 624 rfl rfl, mT_at 626 rfl rfl, mT_sat 20 rfl rfl, mT_at 8 rfl rfl, mT_at 627 rfl rfl, rfl, by decide, by decide, by decide +kernel⟩
set_option maxRecDepth 20000 in
theorem clX5_88 : mCV RX5 88 RX5 yX5_takeEnd cX5_takeEnd 1 (some .boolean) 0 := ⟨mT_at 629 rfl rfl, mT_at 631 rfl rfl, mT_sat 21 rfl rfl, mT_at 8 rfl rfl, mT_at 632 rfl rfl, rfl, by decide, by decide, by decide +kernel⟩
set_option maxRecDepth 20000 in
theorem clX5_92 : mCV RX5 92 RX5 yX5_endOfRun cX5_endOfRun 4 (some .int) 2 := ⟨mT_at 567 rfl rfl, mT_at 569 rfl rfl, mT_sat 18 rfl rfl, mT_at 8 rfl rfl, mT_at 570 rfl rfl, rfl, by decide, by decide, by decide +kernel⟩
set_option maxRecDepth 20000 in
theorem clX5_105 : mCN RX5 105 cX8_within 3 (some .boolean) 3 := ⟨by decide, mT_at 290 rfl rfl, mT_at 1 rfl rfl, mT_at 291 rfl rfl, by decide, by decide, by decide +kernel⟩
set_option maxRecDepth 20000 in
theorem clX6_22 : mCS RX6 22 yX6_pairOf cX6_pairOf 2 (some .int) 2 := ⟨mT_at 505 rfl rfl, mT_at 506 rfl rfl, mT_at 5 rfl rfl, mT_at 507 rfl rfl, by decide, by decide, by decide +kernel⟩
set_option maxRecDepth 20000 in
theorem clX8_71 : mCV RX8 71 RX2 yX2_open cX2_open 1 (some .int) 0 := ⟨mT_at 273 rfl rfl, mT_at 274 rfl rfl, mT_at 275 rfl rfl, mT_at 2 rfl rfl, mT_at 276 rfl rfl, rfl, by decide, by decide, by decide +kernel⟩
set_option maxRecDepth 20000 in
theorem clX8_78 : mCV RX8 78 RX8 yX8_cardOf cX8_cardOf 3 (some (.object "NamedAgain$Card")) 2 := ⟨mT_at 281 rfl rfl, mT_at 283 rfl rfl, mT_sat 0 rfl rfl, mT_at 1 rfl rfl, mT_at 284 rfl rfl, rfl, by decide, by decide, by decide +kernel⟩
set_option maxRecDepth 20000 in
theorem clX8_82 : mCS RX8 82 yX8_within cX8_within 3 (some .boolean) 3 := ⟨mT_at 289 rfl rfl, mT_at 290 rfl rfl, mT_at 1 rfl rfl, mT_at 291 rfl rfl, by decide, by decide, by decide +kernel⟩
set_option maxRecDepth 20000 in
theorem clX8_118 : mCV RX8 118 RX2 yX2_find cX2_find 2 (some (.object "NamedAgain$Card")) 1 := ⟨mT_at 285 rfl rfl, mT_at 286 rfl rfl, mT_at 287 rfl rfl, mT_at 2 rfl rfl, mT_at 288 rfl rfl, rfl, by decide, by decide, by decide +kernel⟩
set_option maxRecDepth 20000 in
theorem clX8_122 : mCV RX8 122 RX0 yX0_piecesBeside cX0_piecesBeside 5 (some .int) 1 := ⟨mT_at 318 rfl rfl, mT_at 319 rfl rfl, mT_at 320 rfl rfl, mT_at 4 rfl rfl, mT_at 321 rfl rfl, rfl, by decide, by decide, by decide +kernel⟩
set_option maxRecDepth 20000 in
theorem clX8_129 : mCV RX8 129 RX0 yX0_leaderOf cX0_leaderOf 2 (some .int) 1 := ⟨mT_at 330 rfl rfl, mT_at 323 rfl rfl, mT_at 324 rfl rfl, mT_at 4 rfl rfl, mT_at 325 rfl rfl, rfl, by decide, by decide, by decide +kernel⟩
set_option maxRecDepth 20000 in
theorem clX8_132 : mCV RX8 132 RX0 yX0_gather cX0_gather 4 none 2 := ⟨mT_at 331 rfl rfl, mT_at 332 rfl rfl, mT_at 333 rfl rfl, mT_at 4 rfl rfl, mT_at 334 rfl rfl, rfl, by decide, by decide, by decide +kernel⟩
set_option maxRecDepth 20000 in
theorem clX8_136 : mCV RX8 136 RX1 yX1_sexUnlike cX1_sexUnlike 2 (some .boolean) 1 := ⟨mT_at 351 rfl rfl, mT_at 352 rfl rfl, mT_at 353 rfl rfl, mT_at 3 rfl rfl, mT_at 354 rfl rfl, rfl, by decide, by decide, by decide +kernel⟩
set_option maxRecDepth 20000 in
theorem clX8_140 : mCV RX8 140 RX1 yX1_ageMeets cX1_ageMeets 2 (some .boolean) 1 := ⟨mT_at 355 rfl rfl, mT_at 356 rfl rfl, mT_at 357 rfl rfl, mT_at 3 rfl rfl, mT_at 358 rfl rfl, rfl, by decide, by decide, by decide +kernel⟩
set_option maxRecDepth 20000 in
theorem clX8_143 : mCV RX8 143 RX1 yX1_sheetUnlike cX1_sheetUnlike 5 (some .boolean) 1 := ⟨mT_at 359 rfl rfl, mT_at 360 rfl rfl, mT_at 361 rfl rfl, mT_at 3 rfl rfl, mT_at 362 rfl rfl, rfl, by decide, by decide, by decide +kernel⟩
set_option maxRecDepth 20000 in
theorem clX8_149 : mCV RX8 149 RX8 yX8_unfit cX8_unfit 5 (some .int) 2 := ⟨mT_at 367 rfl rfl, mT_at 327 rfl rfl, mT_at 328 rfl rfl, mT_at 1 rfl rfl, mT_at 329 rfl rfl, rfl, by decide, by decide, by decide +kernel⟩
set_option maxRecDepth 20000 in
theorem clX8_152 : mCV RX8 152 RX0 yX0_unite cX0_unite 6 none 2 := ⟨mT_at 368 rfl rfl, mT_at 369 rfl rfl, mT_at 370 rfl rfl, mT_at 4 rfl rfl, mT_at 371 rfl rfl, rfl, by decide, by decide, by decide +kernel⟩
set_option maxRecDepth 20000 in
theorem clX8_156 : mCV RX8 156 RX0 yX0_sizeOf cX0_sizeOf 4 (some .int) 1 := ⟨mT_at 382 rfl rfl, mT_at 383 rfl rfl, mT_at 384 rfl rfl, mT_at 4 rfl rfl, mT_at 385 rfl rfl, rfl, by decide, by decide, by decide +kernel⟩
set_option maxRecDepth 20000 in
theorem clX8_159 : mCV RX8 159 RX1 yX1_answer cX1_answer 2 (some .int) 1 := ⟨mT_at 386 rfl rfl, mT_at 387 rfl rfl, mT_at 388 rfl rfl, mT_at 3 rfl rfl, mT_at 389 rfl rfl, rfl, by decide, by decide, by decide +kernel⟩
set_option maxRecDepth 20000 in
theorem clX8_162 : mCV RX8 162 RX8 yX8_barOf cX8_barOf 3 (some .int) 2 := ⟨mT_at 395 rfl rfl, mT_at 397 rfl rfl, mT_sat 1 rfl rfl, mT_at 1 rfl rfl, mT_at 398 rfl rfl, rfl, by decide, by decide, by decide +kernel⟩
set_option maxRecDepth 20000 in
theorem clX8_166 : mCV RX8 166 RX3 yX3_weigh cX3_weigh 3 (some .int) 2 := ⟨mT_at 421 rfl rfl, mT_at 422 rfl rfl, mT_at 423 rfl rfl, mT_at 9 rfl rfl, mT_at 424 rfl rfl, rfl, by decide, by decide, by decide +kernel⟩
set_option maxRecDepth 20000 in
theorem clX8_171 : mCV RX8 171 RX8 yX8_pairUp cX8_pairUp 6 none 0 := ⟨mT_at 445 rfl rfl, mT_at 447 rfl rfl, mT_sat 7 rfl rfl, mT_at 1 rfl rfl, mT_at 448 rfl rfl, rfl, by decide, by decide, by decide +kernel⟩
set_option maxRecDepth 20000 in
theorem clX8_180 : mCV RX8 180 RX4 yX4_lossWithout cX4_lossWithout 3 (some .int) 1 := ⟨mT_at 492 rfl rfl, mT_at 493 rfl rfl, mT_at 494 rfl rfl, mT_at 6 rfl rfl, mT_at 495 rfl rfl, rfl, by decide, by decide, by decide +kernel⟩
set_option maxRecDepth 20000 in
theorem clX8_183 : mCV RX8 183 RX6 yX6_bears cX6_bears 5 (some .boolean) 3 := ⟨mT_at 501 rfl rfl, mT_at 502 rfl rfl, mT_at 503 rfl rfl, mT_at 5 rfl rfl, mT_at 504 rfl rfl, rfl, by decide, by decide, by decide +kernel⟩
set_option maxRecDepth 20000 in
theorem clX8_186 : mCV RX8 186 RX6 yX6_put cX6_put 4 (some .boolean) 3 := ⟨mT_at 508 rfl rfl, mT_at 509 rfl rfl, mT_at 510 rfl rfl, mT_at 5 rfl rfl, mT_at 511 rfl rfl, rfl, by decide, by decide, by decide +kernel⟩
set_option maxRecDepth 20000 in
theorem clX8_189 : mCV RX8 189 RX6 yX6_personsOn cX6_personsOn 5 (some .int) 2 := ⟨mT_at 512 rfl rfl, mT_at 513 rfl rfl, mT_at 514 rfl rfl, mT_at 5 rfl rfl, mT_at 515 rfl rfl, rfl, by decide, by decide, by decide +kernel⟩
set_option maxRecDepth 20000 in
theorem clX8_199 : mCV RX8 199 RX8 yX8_inDoubt cX8_inDoubt 3 (some .boolean) 1 := ⟨mT_at 524 rfl rfl, mT_at 526 rfl rfl, mT_sat 14 rfl rfl, mT_at 1 rfl rfl, mT_at 527 rfl rfl, rfl, by decide, by decide, by decide +kernel⟩
set_option maxRecDepth 20000 in
theorem clX8_203 : mCV RX8 203 RX7 yX7_hasRoomFor cX7_hasRoomFor 2 (some .boolean) 1 := ⟨mT_at 536 rfl rfl, mT_at 537 rfl rfl, mT_at 538 rfl rfl, mT_at 7 rfl rfl, mT_at 539 rfl rfl, rfl, by decide, by decide, by decide +kernel⟩
set_option maxRecDepth 20000 in
theorem clX8_206 : mCV RX8 206 RX7 yX7_put cX7_put 3 none 1 := ⟨mT_at 540 rfl rfl, mT_at 541 rfl rfl, mT_at 542 rfl rfl, mT_at 7 rfl rfl, mT_at 543 rfl rfl, rfl, by decide, by decide, by decide +kernel⟩
set_option maxRecDepth 20000 in
theorem clX8_216 : mCV RX8 216 RX5 yX5_read cX5_read 6 (some .int) 3 := ⟨mT_at 548 rfl rfl, mT_at 549 rfl rfl, mT_at 550 rfl rfl, mT_at 8 rfl rfl, mT_at 551 rfl rfl, rfl, by decide, by decide, by decide +kernel⟩
set_option maxRecDepth 20000 in
theorem clX8_226 : mCV RX8 226 RX0 yX0_howMany cX0_howMany 3 (some .int) 0 := ⟨mT_at 651 rfl rfl, mT_at 652 rfl rfl, mT_at 653 rfl rfl, mT_at 4 rfl rfl, mT_at 654 rfl rfl, rfl, by decide, by decide, by decide +kernel⟩
set_option maxRecDepth 20000 in
theorem clX8_229 : mCV RX8 229 RX0 yX0_howManyNamed cX0_howManyNamed 3 (some .int) 0 := ⟨mT_at 656 rfl rfl, mT_at 657 rfl rfl, mT_at 658 rfl rfl, mT_at 4 rfl rfl, mT_at 659 rfl rfl, rfl, by decide, by decide, by decide +kernel⟩
set_option maxRecDepth 20000 in
theorem clX8_233 : mCV RX8 233 RX8 yX8_howManyInDoubt cX8_howManyInDoubt 3 (some .int) 0 := ⟨mT_at 660 rfl rfl, mT_at 662 rfl rfl, mT_sat 23 rfl rfl, mT_at 1 rfl rfl, mT_at 663 rfl rfl, rfl, by decide, by decide, by decide +kernel⟩
set_option maxRecDepth 20000 in
theorem clX8_236 : mCV RX8 236 RX8 yX8_howManyUnpaired cX8_howManyUnpaired 3 (some .int) 0 := ⟨mT_at 664 rfl rfl, mT_at 666 rfl rfl, mT_sat 24 rfl rfl, mT_at 1 rfl rfl, mT_at 667 rfl rfl, rfl, by decide, by decide, by decide +kernel⟩
set_option maxRecDepth 20000 in
theorem clX8_239 : mCV RX8 239 RX1 yX1_barFrom cX1_barFrom 2 (some .int) 1 := ⟨mT_at 399 rfl rfl, mT_at 400 rfl rfl, mT_at 401 rfl rfl, mT_at 3 rfl rfl, mT_at 402 rfl rfl, rfl, by decide, by decide, by decide +kernel⟩
set_option maxRecDepth 20000 in
theorem clX8_243 : mCV RX8 243 RX0 yX0_leads cX0_leads 2 (some .boolean) 1 := ⟨mT_at 449 rfl rfl, mT_at 450 rfl rfl, mT_at 451 rfl rfl, mT_at 4 rfl rfl, mT_at 452 rfl rfl, rfl, by decide, by decide, by decide +kernel⟩
set_option maxRecDepth 20000 in
theorem clX8_246 : mCV RX8 246 RX0 yX0_hasGiven cX0_hasGiven 3 (some .boolean) 1 := ⟨mT_at 453 rfl rfl, mT_at 454 rfl rfl, mT_at 455 rfl rfl, mT_at 4 rfl rfl, mT_at 456 rfl rfl, rfl, by decide, by decide, by decide +kernel⟩
set_option maxRecDepth 20000 in
theorem clX8_249 : mCV RX8 249 RX4 yX4_settle cX4_settle 2 none 0 := ⟨mT_at 457 rfl rfl, mT_at 458 rfl rfl, mT_at 459 rfl rfl, mT_at 6 rfl rfl, mT_at 460 rfl rfl, rfl, by decide, by decide, by decide +kernel⟩
set_option maxRecDepth 20000 in
theorem clX9_64 : mCS RX9 64 yX9_isIn cX9_isIn 3 (some .boolean) 3 := ⟨mT_at 749 rfl rfl, mT_at 750 rfl rfl, mT_at 10 rfl rfl, mT_at 751 rfl rfl, by decide, by decide, by decide +kernel⟩
set_option maxRecDepth 20000 in
theorem clX9_68 : mCV RX9 68 RX9 yX9_isFile cX9_isFile 3 (some .boolean) 2 := ⟨mT_at 756 rfl rfl, mT_at 758 rfl rfl, mT_sat 25 rfl rfl, mT_at 10 rfl rfl, mT_at 759 rfl rfl, rfl, by decide, by decide, by decide +kernel⟩
set_option maxRecDepth 20000 in
theorem clX9_72 : mCV RX9 72 RX9 yX9_mends cX9_mends 5 (some .boolean) 4 := ⟨mT_at 760 rfl rfl, mT_at 762 rfl rfl, mT_sat 26 rfl rfl, mT_at 10 rfl rfl, mT_at 763 rfl rfl, rfl, by decide, by decide, by decide +kernel⟩
set_option maxRecDepth 20000 in
theorem clX9_85 : mCV RX9 85 RX9 yX9_piecesOf cX9_piecesOf 4 (some .int) 1 := ⟨mT_at 786 rfl rfl, mT_at 788 rfl rfl, mT_sat 27 rfl rfl, mT_at 10 rfl rfl, mT_at 789 rfl rfl, rfl, by decide, by decide, by decide +kernel⟩
set_option maxRecDepth 20000 in
theorem clX9_89 : mCV RX9 89 RX9 yX9_ofBody cX9_ofBody 5 (some .int) 2 := ⟨mT_at 794 rfl rfl, mT_at 796 rfl rfl, mT_sat 28 rfl rfl, mT_at 10 rfl rfl, mT_at 797 rfl rfl, rfl, by decide, by decide, by decide +kernel⟩
set_option maxRecDepth 20000 in
theorem clX9_92 : mCS RX9 92 yX9_areUnlike cX9_areUnlike 2 (some .boolean) 2 := ⟨mT_at 798 rfl rfl, mT_at 799 rfl rfl, mT_at 10 rfl rfl, mT_at 800 rfl rfl, by decide, by decide, by decide +kernel⟩
set_option maxRecDepth 20000 in
theorem clX9_95 : mCV RX9 95 RX9 yX9_ageOf cX9_ageOf 5 (some .int) 2 := ⟨mT_at 801 rfl rfl, mT_at 803 rfl rfl, mT_sat 29 rfl rfl, mT_at 10 rfl rfl, mT_at 804 rfl rfl, rfl, by decide, by decide, by decide +kernel⟩
set_option maxRecDepth 20000 in
theorem clX9_99 : mCV RX9 99 RX9 yX9_unfit cX9_unfit 6 (some .int) 2 := ⟨mT_at 809 rfl rfl, mT_at 791 rfl rfl, mT_at 792 rfl rfl, mT_at 10 rfl rfl, mT_at 793 rfl rfl, rfl, by decide, by decide, by decide +kernel⟩
set_option maxRecDepth 20000 in
theorem clX9_102 : mCS RX9 102 yX9_one cX9_one 1 (some .int) 1 := ⟨mT_at 822 rfl rfl, mT_at 823 rfl rfl, mT_at 10 rfl rfl, mT_at 824 rfl rfl, by decide, by decide, by decide +kernel⟩
set_option maxRecDepth 20000 in
theorem clX9_106 : mCV RX9 106 RX9 yX9_sizeOf cX9_sizeOf 4 (some .int) 1 := ⟨mT_at 818 rfl rfl, mT_at 820 rfl rfl, mT_sat 30 rfl rfl, mT_at 10 rfl rfl, mT_at 821 rfl rfl, rfl, by decide, by decide, by decide +kernel⟩
set_option maxRecDepth 20000 in
theorem clX9_109 : mCV RX9 109 RX9 yX9_ofMissing cX9_ofMissing 3 (some .int) 2 := ⟨mT_at 837 rfl rfl, mT_at 839 rfl rfl, mT_sat 33 rfl rfl, mT_at 10 rfl rfl, mT_at 840 rfl rfl, rfl, by decide, by decide, by decide +kernel⟩
set_option maxRecDepth 20000 in
theorem clX9_112 : mCS RX9 112 yX9_sharesNone cX9_sharesNone 2 (some .boolean) 2 := ⟨mT_at 841 rfl rfl, mT_at 842 rfl rfl, mT_at 10 rfl rfl, mT_at 843 rfl rfl, by decide, by decide, by decide +kernel⟩
set_option maxRecDepth 20000 in
theorem clX9_115 : mCV RX9 115 RX9 yX9_isPair cX9_isPair 3 (some .boolean) 2 := ⟨mT_at 829 rfl rfl, mT_at 831 rfl rfl, mT_sat 31 rfl rfl, mT_at 10 rfl rfl, mT_at 832 rfl rfl, rfl, by decide, by decide, by decide +kernel⟩
set_option maxRecDepth 20000 in
theorem clX9_118 : mCV RX9 118 RX9 yX9_shutOf cX9_shutOf 6 (some .int) 2 := ⟨mT_at 833 rfl rfl, mT_at 835 rfl rfl, mT_sat 32 rfl rfl, mT_at 10 rfl rfl, mT_at 836 rfl rfl, rfl, by decide, by decide, by decide +kernel⟩
set_option maxRecDepth 20000 in
theorem clX9_122 : mCV RX9 122 RX9 yX9_pointsOf cX9_pointsOf 7 (some .int) 2 := ⟨mT_at 848 rfl rfl, mT_at 850 rfl rfl, mT_sat 34 rfl rfl, mT_at 10 rfl rfl, mT_at 851 rfl rfl, rfl, by decide, by decide, by decide +kernel⟩
set_option maxRecDepth 20000 in
theorem clX9_125 : mCV RX9 125 RX9 yX9_isNamed cX9_isNamed 4 (some .boolean) 1 := ⟨mT_at 865 rfl rfl, mT_at 867 rfl rfl, mT_sat 37 rfl rfl, mT_at 10 rfl rfl, mT_at 868 rfl rfl, rfl, by decide, by decide, by decide +kernel⟩
set_option maxRecDepth 20000 in
theorem clX9_129 : mCV RX9 129 RX9 yX9_measures cX9_measures 4 none 0 := ⟨mT_at 861 rfl rfl, mT_at 863 rfl rfl, mT_sat 36 rfl rfl, mT_at 10 rfl rfl, mT_at 864 rfl rfl, rfl, by decide, by decide, by decide +kernel⟩
set_option maxRecDepth 20000 in
theorem clX9_132 : mCV RX9 132 RX9 yX9_pairs cX9_pairs 7 (some .int) 0 := ⟨mT_at 869 rfl rfl, mT_at 871 rfl rfl, mT_sat 38 rfl rfl, mT_at 10 rfl rfl, mT_at 872 rfl rfl, rfl, by decide, by decide, by decide +kernel⟩
set_option maxRecDepth 20000 in
theorem clX9_136 : mCV RX9 136 RX9 yX9_shares cX9_shares 4 none 0 := ⟨mT_at 857 rfl rfl, mT_at 859 rfl rfl, mT_sat 35 rfl rfl, mT_at 10 rfl rfl, mT_at 860 rfl rfl, rfl, by decide, by decide, by decide +kernel⟩
set_option maxRecDepth 20000 in
theorem clX9_139 : mCV RX9 139 RX9 yX9_marginOf cX9_marginOf 6 (some .int) 1 := ⟨mT_at 877 rfl rfl, mT_at 879 rfl rfl, mT_sat 39 rfl rfl, mT_at 10 rfl rfl, mT_at 880 rfl rfl, rfl, by decide, by decide, by decide +kernel⟩
set_option maxRecDepth 20000 in
theorem clX9_145 : mCV RX9 145 RX9 yX9_sealed cX9_sealed 5 (some .int) 2 := ⟨mT_at 885 rfl rfl, mT_at 887 rfl rfl, mT_sat 40 rfl rfl, mT_at 10 rfl rfl, mT_at 888 rfl rfl, rfl, by decide, by decide, by decide +kernel⟩
set_option maxRecDepth 20000 in
theorem clX9_148 : mCS RX9 148 yX9_bits cX9_bits 3 (some .int) 1 := ⟨mT_at 889 rfl rfl, mT_at 890 rfl rfl, mT_at 10 rfl rfl, mT_at 891 rfl rfl, by decide, by decide, by decide +kernel⟩
set_option maxRecDepth 20000 in
theorem clX9_151 : mCV RX9 151 RX9 yX9_isDoubted cX9_isDoubted 2 (some .boolean) 1 := ⟨mT_at 900 rfl rfl, mT_at 902 rfl rfl, mT_sat 41 rfl rfl, mT_at 10 rfl rfl, mT_at 903 rfl rfl, rfl, by decide, by decide, by decide +kernel⟩
set_option maxRecDepth 20000 in
theorem clX9_157 : mCV RX9 157 RX9 yX9_four cX9_four 3 none 1 := ⟨mT_at 912 rfl rfl, mT_at 914 rfl rfl, mT_sat 42 rfl rfl, mT_at 10 rfl rfl, mT_at 915 rfl rfl, rfl, by decide, by decide, by decide +kernel⟩
set_option maxRecDepth 20000 in
theorem clX9_167 : mCV RX9 167 RX9 yX9_blanks cX9_blanks 1 none 0 := ⟨mT_at 923 rfl rfl, mT_at 925 rfl rfl, mT_sat 43 rfl rfl, mT_at 10 rfl rfl, mT_at 926 rfl rfl, rfl, by decide, by decide, by decide +kernel⟩
set_option maxRecDepth 20000 in
theorem clX9_173 : mCV RX9 173 RX9 yX9_word cX9_word 3 (some .long) 0 := ⟨mT_at 936 rfl rfl, mT_at 938 rfl rfl, mT_sat 46 rfl rfl, mT_at 10 rfl rfl, mT_at 939 rfl rfl, rfl, by decide, by decide, by decide +kernel⟩
set_option maxRecDepth 20000 in
theorem clX9_182 : mCV RX9 182 RX9 yX9_takes cX9_takes 3 (some .boolean) 1 := ⟨mT_at 932 rfl rfl, mT_at 934 rfl rfl, mT_sat 45 rfl rfl, mT_at 10 rfl rfl, mT_at 935 rfl rfl, rfl, by decide, by decide, by decide +kernel⟩
set_option maxRecDepth 20000 in
theorem clX9_190 : mCV RX9 190 RX9 yX9_takesNumber cX9_takesNumber 4 (some .boolean) 2 := ⟨mT_at 942 rfl rfl, mT_at 944 rfl rfl, mT_sat 47 rfl rfl, mT_at 10 rfl rfl, mT_at 945 rfl rfl, rfl, by decide, by decide, by decide +kernel⟩
set_option maxRecDepth 20000 in
theorem clX9_203 : mCS RX9 203 yX9_plain cX9_plain 1 (some .int) 1 := ⟨mT_at 920 rfl rfl, mT_at 921 rfl rfl, mT_at 10 rfl rfl, mT_at 922 rfl rfl, by decide, by decide, by decide +kernel⟩
set_option maxRecDepth 20000 in
theorem clX9_206 : mCV RX9 206 RX9 yX9_statement cX9_statement 3 (some .boolean) 0 := ⟨mT_at 927 rfl rfl, mT_at 929 rfl rfl, mT_sat 44 rfl rfl, mT_at 10 rfl rfl, mT_at 930 rfl rfl, rfl, by decide, by decide, by decide +kernel⟩
set_option maxRecDepth 20000 in
theorem clX9_210 : mCV RX9 210 RX9 yX9_names cX9_names 4 (some .int) 1 := ⟨mT_at 963 rfl rfl, mT_at 965 rfl rfl, mT_sat 49 rfl rfl, mT_at 10 rfl rfl, mT_at 966 rfl rfl, rfl, by decide, by decide, by decide +kernel⟩
set_option maxRecDepth 20000 in
theorem clX9_213 : mCV RX9 213 RX9 yX9_bodies cX9_bodies 3 (some .int) 0 := ⟨mT_at 959 rfl rfl, mT_at 961 rfl rfl, mT_sat 48 rfl rfl, mT_at 10 rfl rfl, mT_at 962 rfl rfl, rfl, by decide, by decide, by decide +kernel⟩
set_option maxRecDepth 20000 in
theorem clX9_216 : mCV RX9 216 RX9 yX9_alone cX9_alone 3 (some .int) 0 := ⟨mT_at 967 rfl rfl, mT_at 969 rfl rfl, mT_sat 50 rfl rfl, mT_at 10 rfl rfl, mT_at 970 rfl rfl, rfl, by decide, by decide, by decide +kernel⟩
set_option maxRecDepth 20000 in
theorem mhX0_33 : mMh RX0 33 Lib.Math.min.name Lib.Math.min.code := ⟨mT_at 372 rfl rfl, mT_at 309 rfl rfl, mT_at 11 rfl rfl, mT_at 310 rfl rfl⟩
set_option maxRecDepth 20000 in
theorem mhX0_39 : mMh RX0 39 Lib.Math.max.name Lib.Math.max.code := ⟨mT_at 373 rfl rfl, mT_at 312 rfl rfl, mT_at 11 rfl rfl, mT_at 313 rfl rfl⟩
set_option maxRecDepth 20000 in
theorem mhX1_41 : mMh RX1 41 Lib.Math.max.name Lib.Math.max.code := ⟨mT_at 346 rfl rfl, mT_at 312 rfl rfl, mT_at 11 rfl rfl, mT_at 313 rfl rfl⟩
set_option maxRecDepth 20000 in
theorem mhX1_47 : mMh RX1 47 Lib.Math.min.name Lib.Math.min.code := ⟨mT_at 347 rfl rfl, mT_at 309 rfl rfl, mT_at 11 rfl rfl, mT_at 310 rfl rfl⟩
set_option maxRecDepth 20000 in
theorem mhX5_19 : mMh RX5 19 Lib.Math.min.name Lib.Math.min.code := ⟨mT_at 552 rfl rfl, mT_at 309 rfl rfl, mT_at 11 rfl rfl, mT_at 310 rfl rfl⟩
set_option maxRecDepth 20000 in
theorem mhX8_109 : mMh RX8 109 Lib.Math.min.name Lib.Math.min.code := ⟨mT_at 308 rfl rfl, mT_at 309 rfl rfl, mT_at 11 rfl rfl, mT_at 310 rfl rfl⟩
set_option maxRecDepth 20000 in
theorem mhX8_115 : mMh RX8 115 Lib.Math.max.name Lib.Math.max.code := ⟨mT_at 311 rfl rfl, mT_at 312 rfl rfl, mT_at 11 rfl rfl, mT_at 313 rfl rfl⟩
set_option maxRecDepth 20000 in
theorem mhX9_76 : mMh RX9 76 Lib.Math.min.name Lib.Math.min.code := ⟨mT_at 780 rfl rfl, mT_at 309 rfl rfl, mT_at 11 rfl rfl, mT_at 310 rfl rfl⟩
set_option maxRecDepth 20000 in
theorem mhX9_82 : mMh RX9 82 Lib.Math.max.name Lib.Math.max.code := ⟨mT_at 781 rfl rfl, mT_at 312 rfl rfl, mT_at 11 rfl rfl, mT_at 313 rfl rfl⟩
