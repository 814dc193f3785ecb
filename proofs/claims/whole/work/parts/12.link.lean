/-! ===== links ===== -/
theorem inX0g : ∀ w ∈ u_ws RX0 TX0 7, w ∈ lw_good := by
  intro w hw
  obtain ⟨k, hk, rfl⟩ := List.mem_map.mp hw
  have hk := List.mem_range.mp hk
  match k, hk with
  | 0, _ => exact gm 298 (by decide +kernel) rfl
  | 1, _ => exact gm 300 (by decide +kernel) rfl
  | 2, _ => exact gm 302 (by decide +kernel) rfl
  | 3, _ => exact gm 304 (by decide +kernel) rfl
  | 4, _ => exact gm 306 (by decide +kernel) rfl
  | 5, _ => exact gm 308 (by decide +kernel) rfl
  | 6, _ => exact gm 310 (by decide +kernel) rfl
  | k + 7, h => exact absurd h (by omega)
theorem inX1g : ∀ w ∈ u_ws RX1 TX1 3, w ∈ lw_good := by
  intro w hw
  obtain ⟨k, hk, rfl⟩ := List.mem_map.mp hw
  have hk := List.mem_range.mp hk
  match k, hk with
  | 0, _ => exact gm 248 (by decide +kernel) rfl
  | 1, _ => exact gm 250 (by decide +kernel) rfl
  | 2, _ => exact gm 252 (by decide +kernel) rfl
  | k + 3, h => exact absurd h (by omega)
theorem inX2g : ∀ w ∈ u_ws RX2 TX2 3, w ∈ lw_good := by
  intro w hw
  obtain ⟨k, hk, rfl⟩ := List.mem_map.mp hw
  have hk := List.mem_range.mp hk
  match k, hk with
  | 0, _ => exact gm 343 (by decide +kernel) rfl
  | 1, _ => exact gm 345 (by decide +kernel) rfl
  | 2, _ => exact gm 347 (by decide +kernel) rfl
  | k + 3, h => exact absurd h (by omega)
theorem inX3g : ∀ w ∈ u_ws RX3 TX3 3, w ∈ lw_good := by
  intro w hw
  obtain ⟨k, hk, rfl⟩ := List.mem_map.mp hw
  have hk := List.mem_range.mp hk
  match k, hk with
  | 0, _ => exact gm 231 (by decide +kernel) rfl
  | 1, _ => exact gm 233 (by decide +kernel) rfl
  | 2, _ => exact gm 235 (by decide +kernel) rfl
  | k + 3, h => exact absurd h (by omega)
theorem inX4g : ∀ w ∈ u_ws RX4 TX4 4, w ∈ lw_good := by
  intro w hw
  obtain ⟨k, hk, rfl⟩ := List.mem_map.mp hw
  have hk := List.mem_range.mp hk
  match k, hk with
  | 0, _ => exact gm 270 (by decide +kernel) rfl
  | 1, _ => exact gm 272 (by decide +kernel) rfl
  | 2, _ => exact gm 274 (by decide +kernel) rfl
  | 3, _ => exact gm 276 (by decide +kernel) rfl
  | k + 4, h => exact absurd h (by omega)
theorem inX5g : ∀ w ∈ u_ws RX5 TX5 3, w ∈ lw_good := by
  intro w hw
  obtain ⟨k, hk, rfl⟩ := List.mem_map.mp hw
  have hk := List.mem_range.mp hk
  match k, hk with
  | 0, _ => exact gm 210 (by decide +kernel) rfl
  | 1, _ => exact gm 212 (by decide +kernel) rfl
  | 2, _ => exact gm 214 (by decide +kernel) rfl
  | k + 3, h => exact absurd h (by omega)
theorem inX6g : ∀ w ∈ u_ws RX6 TX6 4, w ∈ lw_good := by
  intro w hw
  obtain ⟨k, hk, rfl⟩ := List.mem_map.mp hw
  have hk := List.mem_range.mp hk
  match k, hk with
  | 0, _ => exact gm 325 (by decide +kernel) rfl
  | 1, _ => exact gm 327 (by decide +kernel) rfl
  | 2, _ => exact gm 329 (by decide +kernel) rfl
  | 3, _ => exact gm 331 (by decide +kernel) rfl
  | k + 4, h => exact absurd h (by omega)
theorem inX7g : ∀ w ∈ u_ws RX7 TX7 6, w ∈ lw_good := by
  intro w hw
  obtain ⟨k, hk, rfl⟩ := List.mem_map.mp hw
  have hk := List.mem_range.mp hk
  match k, hk with
  | 0, _ => exact gm 155 (by decide +kernel) rfl
  | 1, _ => exact gm 157 (by decide +kernel) rfl
  | 2, _ => exact gm 159 (by decide +kernel) rfl
  | 3, _ => exact gm 161 (by decide +kernel) rfl
  | 4, _ => exact gm 163 (by decide +kernel) rfl
  | 5, _ => exact gm 165 (by decide +kernel) rfl
  | k + 6, h => exact absurd h (by omega)
theorem inX8g : ∀ w ∈ u_ws RX8 TX8 6, w ∈ lw_good := by
  intro w hw
  obtain ⟨k, hk, rfl⟩ := List.mem_map.mp hw
  have hk := List.mem_range.mp hk
  match k, hk with
  | 0, _ => exact gm 184 (by decide +kernel) rfl
  | 1, _ => exact gm 186 (by decide +kernel) rfl
  | 2, _ => exact gm 188 (by decide +kernel) rfl
  | 3, _ => exact gm 190 (by decide +kernel) rfl
  | 4, _ => exact gm 192 (by decide +kernel) rfl
  | 5, _ => exact gm 194 (by decide +kernel) rfl
  | k + 6, h => exact absurd h (by omega)
theorem inX9g : ∀ w ∈ u_ws RX9 TX9 10, w ∈ lw_good := by
  intro w hw
  obtain ⟨k, hk, rfl⟩ := List.mem_map.mp hw
  have hk := List.mem_range.mp hk
  match k, hk with
  | 0, _ => exact gm 375 (by decide +kernel) rfl
  | 1, _ => exact gm 377 (by decide +kernel) rfl
  | 2, _ => exact gm 379 (by decide +kernel) rfl
  | 3, _ => exact gm 381 (by decide +kernel) rfl
  | 4, _ => exact gm 383 (by decide +kernel) rfl
  | 5, _ => exact gm 385 (by decide +kernel) rfl
  | 6, _ => exact gm 387 (by decide +kernel) rfl
  | 7, _ => exact gm 389 (by decide +kernel) rfl
  | 8, _ => exact gm 391 (by decide +kernel) rfl
  | 9, _ => exact gm 393 (by decide +kernel) rfl
  | k + 10, h => exact absurd h (by omega)
theorem inX10g : ∀ w ∈ u_ws RX10 TX10 14, w ∈ lw_good := by
  intro w hw
  obtain ⟨k, hk, rfl⟩ := List.mem_map.mp hw
  have hk := List.mem_range.mp hk
  match k, hk with
  | 0, _ => exact gm 410 (by decide +kernel) rfl
  | 1, _ => exact gm 412 (by decide +kernel) rfl
  | 2, _ => exact gm 414 (by decide +kernel) rfl
  | 3, _ => exact gm 416 (by decide +kernel) rfl
  | 4, _ => exact gm 418 (by decide +kernel) rfl
  | 5, _ => exact gm 420 (by decide +kernel) rfl
  | 6, _ => exact gm 422 (by decide +kernel) rfl
  | 7, _ => exact gm 424 (by decide +kernel) rfl
  | 8, _ => exact gm 426 (by decide +kernel) rfl
  | 9, _ => exact gm 428 (by decide +kernel) rfl
  | 10, _ => exact gm 430 (by decide +kernel) rfl
  | 11, _ => exact gm 432 (by decide +kernel) rfl
  | 12, _ => exact gm 434 (by decide +kernel) rfl
  | 13, _ => exact gm 436 (by decide +kernel) rfl
  | k + 14, h => exact absurd h (by omega)
theorem inX11g : ∀ w ∈ u_ws RX11 TX11 36, w ∈ lw_good := by
  intro w hw
  obtain ⟨k, hk, rfl⟩ := List.mem_map.mp hw
  have hk := List.mem_range.mp hk
  match k, hk with
  | 0, _ => exact gm 1042 (by decide +kernel) rfl
  | 1, _ => exact gm 1044 (by decide +kernel) rfl
  | 2, _ => exact gm 1046 (by decide +kernel) rfl
  | 3, _ => exact gm 1048 (by decide +kernel) rfl
  | 4, _ => exact gm 1050 (by decide +kernel) rfl
  | 5, _ => exact gm 1052 (by decide +kernel) rfl
  | 6, _ => exact gm 1054 (by decide +kernel) rfl
  | 7, _ => exact gm 1056 (by decide +kernel) rfl
  | 8, _ => exact gm 1058 (by decide +kernel) rfl
  | 9, _ => exact gm 1060 (by decide +kernel) rfl
  | 10, _ => exact gm 1062 (by decide +kernel) rfl
  | 11, _ => exact gm 1064 (by decide +kernel) rfl
  | 12, _ => exact gm 1066 (by decide +kernel) rfl
  | 13, _ => exact gm 1068 (by decide +kernel) rfl
  | 14, _ => exact gm 1070 (by decide +kernel) rfl
  | 15, _ => exact gm 1072 (by decide +kernel) rfl
  | 16, _ => exact gm 1074 (by decide +kernel) rfl
  | 17, _ => exact gm 1076 (by decide +kernel) rfl
  | 18, _ => exact gm 1078 (by decide +kernel) rfl
  | 19, _ => exact gm 1080 (by decide +kernel) rfl
  | 20, _ => exact gm 1082 (by decide +kernel) rfl
  | 21, _ => exact gm 1084 (by decide +kernel) rfl
  | 22, _ => exact gm 1086 (by decide +kernel) rfl
  | 23, _ => exact gm 1088 (by decide +kernel) rfl
  | 24, _ => exact gm 1090 (by decide +kernel) rfl
  | 25, _ => exact gm 1092 (by decide +kernel) rfl
  | 26, _ => exact gm 1094 (by decide +kernel) rfl
  | 27, _ => exact gm 1096 (by decide +kernel) rfl
  | 28, _ => exact gm 1098 (by decide +kernel) rfl
  | 29, _ => exact gm 1100 (by decide +kernel) rfl
  | 30, _ => exact gm 1102 (by decide +kernel) rfl
  | 31, _ => exact gm 1104 (by decide +kernel) rfl
  | 32, _ => exact gm 1106 (by decide +kernel) rfl
  | 33, _ => exact gm 1108 (by decide +kernel) rfl
  | 34, _ => exact gm 1110 (by decide +kernel) rfl
  | 35, _ => exact gm 1112 (by decide +kernel) rfl
  | k + 36, h => exact absurd h (by omega)
theorem fX7_9 : zFl RX7 9 7 0 2 true (.array .int) := ⟨RX7, TX7, 6, tyX7, rfl, by decide, rfl, rfl, inX7g, tyX7_ok, nmX7, rfl, rfl, rfl, Or.inl (gm 147 (by decide +kernel) rfl)⟩
theorem ffX7_9 : ∀ q, classes[7]? = some q → q.1 = RX7 ∧ Cond.fieldLink RX7 9 q.1 (q.2.1 0).2.1 (q.2.1 0).2.2.1 ∈ lw_good := fun q h => by cases h; exact ⟨rfl, gm 147 (by decide +kernel) rfl⟩
theorem fX7_15 : zFl RX7 15 7 1 0 false .int := ⟨RX7, TX7, 6, tyX7, rfl, by decide, rfl, rfl, inX7g, tyX7_ok, nmX7, rfl, rfl, rfl, Or.inl (gm 148 (by decide +kernel) rfl)⟩
theorem fX10_99 : zFl RX10 99 7 1 0 false .int := ⟨RX7, TX7, 6, tyX7, rfl, by decide, rfl, rfl, inX7g, tyX7_ok, nmX7, rfl, rfl, rfl, Or.inr ⟨"GrudgeYard", nm_ 149 (by decide +kernel) rfl⟩⟩
theorem fX7_19 : zFl RX7 19 7 2 0 false .int := ⟨RX7, TX7, 6, tyX7, rfl, by decide, rfl, rfl, inX7g, tyX7_ok, nmX7, rfl, rfl, rfl, Or.inl (gm 150 (by decide +kernel) rfl)⟩
theorem fX7_22 : zFl RX7 22 7 3 0 false .int := ⟨RX7, TX7, 6, tyX7, rfl, by decide, rfl, rfl, inX7g, tyX7_ok, nmX7, rfl, rfl, rfl, Or.inl (gm 151 (by decide +kernel) rfl)⟩
theorem fX7_25 : zFl RX7 25 7 4 0 false .int := ⟨RX7, TX7, 6, tyX7, rfl, by decide, rfl, rfl, inX7g, tyX7_ok, nmX7, rfl, rfl, rfl, Or.inl (gm 152 (by decide +kernel) rfl)⟩
theorem fX7_28 : zFl RX7 28 7 5 0 false .int := ⟨RX7, TX7, 6, tyX7, rfl, by decide, rfl, rfl, inX7g, tyX7_ok, nmX7, rfl, rfl, rfl, Or.inl (gm 153 (by decide +kernel) rfl)⟩
theorem fX10_123 : zFl RX10 123 7 5 0 false .int := ⟨RX7, TX7, 6, tyX7, rfl, by decide, rfl, rfl, inX7g, tyX7_ok, nmX7, rfl, rfl, rfl, Or.inr ⟨"GrudgeYard", nm_ 154 (by decide +kernel) rfl⟩⟩
theorem fX8_11 : zFl RX8 11 8 0 2 true (.array .int) := ⟨RX8, TX8, 6, tyX8, rfl, by decide, rfl, rfl, inX8g, tyX8_ok, nmX8, rfl, rfl, rfl, Or.inl (gm 175 (by decide +kernel) rfl)⟩
theorem ffX8_11 : ∀ q, classes[8]? = some q → q.1 = RX8 ∧ Cond.fieldLink RX8 11 q.1 (q.2.1 0).2.1 (q.2.1 0).2.2.1 ∈ lw_good := fun q h => by cases h; exact ⟨rfl, gm 175 (by decide +kernel) rfl⟩
theorem fX8_15 : zFl RX8 15 8 1 2 true (.array .int) := ⟨RX8, TX8, 6, tyX8, rfl, by decide, rfl, rfl, inX8g, tyX8_ok, nmX8, rfl, rfl, rfl, Or.inl (gm 176 (by decide +kernel) rfl)⟩
theorem ffX8_15 : ∀ q, classes[8]? = some q → q.1 = RX8 ∧ Cond.fieldLink RX8 15 q.1 (q.2.1 1).2.1 (q.2.1 1).2.2.1 ∈ lw_good := fun q h => by cases h; exact ⟨rfl, gm 176 (by decide +kernel) rfl⟩
theorem fX8_18 : zFl RX8 18 8 2 2 true (.array .int) := ⟨RX8, TX8, 6, tyX8, rfl, by decide, rfl, rfl, inX8g, tyX8_ok, nmX8, rfl, rfl, rfl, Or.inl (gm 177 (by decide +kernel) rfl)⟩
theorem ffX8_18 : ∀ q, classes[8]? = some q → q.1 = RX8 ∧ Cond.fieldLink RX8 18 q.1 (q.2.1 2).2.1 (q.2.1 2).2.2.1 ∈ lw_good := fun q h => by cases h; exact ⟨rfl, gm 177 (by decide +kernel) rfl⟩
theorem fX8_21 : zFl RX8 21 8 3 0 false .int := ⟨RX8, TX8, 6, tyX8, rfl, by decide, rfl, rfl, inX8g, tyX8_ok, nmX8, rfl, rfl, rfl, Or.inl (gm 178 (by decide +kernel) rfl)⟩
theorem fX10_136 : zFl RX10 136 8 3 0 false .int := ⟨RX8, TX8, 6, tyX8, rfl, by decide, rfl, rfl, inX8g, tyX8_ok, nmX8, rfl, rfl, rfl, Or.inr ⟨"GrudgeYard", nm_ 179 (by decide +kernel) rfl⟩⟩
theorem fX8_25 : zFl RX8 25 8 4 0 false .int := ⟨RX8, TX8, 6, tyX8, rfl, by decide, rfl, rfl, inX8g, tyX8_ok, nmX8, rfl, rfl, rfl, Or.inl (gm 180 (by decide +kernel) rfl)⟩
theorem fX10_139 : zFl RX10 139 8 4 0 false .int := ⟨RX8, TX8, 6, tyX8, rfl, by decide, rfl, rfl, inX8g, tyX8_ok, nmX8, rfl, rfl, rfl, Or.inr ⟨"GrudgeYard", nm_ 181 (by decide +kernel) rfl⟩⟩
theorem fX8_28 : zFl RX8 28 8 5 0 false .int := ⟨RX8, TX8, 6, tyX8, rfl, by decide, rfl, rfl, inX8g, tyX8_ok, nmX8, rfl, rfl, rfl, Or.inl (gm 182 (by decide +kernel) rfl)⟩
theorem fX10_142 : zFl RX10 142 8 5 0 false .int := ⟨RX8, TX8, 6, tyX8, rfl, by decide, rfl, rfl, inX8g, tyX8_ok, nmX8, rfl, rfl, rfl, Or.inr ⟨"GrudgeYard", nm_ 183 (by decide +kernel) rfl⟩⟩
theorem fX5_11 : zFl RX5 11 5 0 2 true (.array (.object "GrudgeYard$Stand")) := ⟨RX5, TX5, 3, tyX5, rfl, by decide, rfl, rfl, inX5g, tyX5_ok, nmX5, rfl, rfl, rfl, Or.inl (gm 206 (by decide +kernel) rfl)⟩
theorem ffX5_11 : ∀ q, classes[5]? = some q → q.1 = RX5 ∧ Cond.fieldLink RX5 11 q.1 (q.2.1 0).2.1 (q.2.1 0).2.2.1 ∈ lw_good := fun q h => by cases h; exact ⟨rfl, gm 206 (by decide +kernel) rfl⟩
theorem fX5_17 : zFl RX5 17 5 1 0 false .int := ⟨RX5, TX5, 3, tyX5, rfl, by decide, rfl, rfl, inX5g, tyX5_ok, nmX5, rfl, rfl, rfl, Or.inl (gm 207 (by decide +kernel) rfl)⟩
theorem fX10_149 : zFl RX10 149 5 1 0 false .int := ⟨RX5, TX5, 3, tyX5, rfl, by decide, rfl, rfl, inX5g, tyX5_ok, nmX5, rfl, rfl, rfl, Or.inr ⟨"GrudgeYard", nm_ 208 (by decide +kernel) rfl⟩⟩
theorem fX5_21 : zFl RX5 21 5 2 0 false .int := ⟨RX5, TX5, 3, tyX5, rfl, by decide, rfl, rfl, inX5g, tyX5_ok, nmX5, rfl, rfl, rfl, Or.inl (gm 209 (by decide +kernel) rfl)⟩
theorem fX3_10 : zFl RX3 10 3 0 2 true (.object "GrudgeYard$Stand") := ⟨RX3, TX3, 3, tyX3, rfl, by decide, rfl, rfl, inX3g, tyX3_ok, nmX3, rfl, rfl, rfl, Or.inl (gm 225 (by decide +kernel) rfl)⟩
theorem ffX3_10 : ∀ q, classes[3]? = some q → q.1 = RX3 ∧ Cond.fieldLink RX3 10 q.1 (q.2.1 0).2.1 (q.2.1 0).2.2.1 ∈ lw_good := fun q h => by cases h; exact ⟨rfl, gm 225 (by decide +kernel) rfl⟩
theorem fX10_332 : zFl RX10 332 3 0 2 true (.object "GrudgeYard$Stand") := ⟨RX3, TX3, 3, tyX3, rfl, by decide, rfl, rfl, inX3g, tyX3_ok, nmX3, rfl, rfl, rfl, Or.inr ⟨"GrudgeYard", nm_ 226 (by decide +kernel) rfl⟩⟩
theorem fX3_16 : zFl RX3 16 3 1 0 false .int := ⟨RX3, TX3, 3, tyX3, rfl, by decide, rfl, rfl, inX3g, tyX3_ok, nmX3, rfl, rfl, rfl, Or.inl (gm 227 (by decide +kernel) rfl)⟩
theorem fX10_338 : zFl RX10 338 3 1 0 false .int := ⟨RX3, TX3, 3, tyX3, rfl, by decide, rfl, rfl, inX3g, tyX3_ok, nmX3, rfl, rfl, rfl, Or.inr ⟨"GrudgeYard", nm_ 228 (by decide +kernel) rfl⟩⟩
theorem fX3_20 : zFl RX3 20 3 2 0 false .boolean := ⟨RX3, TX3, 3, tyX3, rfl, by decide, rfl, rfl, inX3g, tyX3_ok, nmX3, rfl, rfl, rfl, Or.inl (gm 229 (by decide +kernel) rfl)⟩
theorem fX10_116 : zFl RX10 116 3 2 0 false .boolean := ⟨RX3, TX3, 3, tyX3, rfl, by decide, rfl, rfl, inX3g, tyX3_ok, nmX3, rfl, rfl, rfl, Or.inr ⟨"GrudgeYard", nm_ 230 (by decide +kernel) rfl⟩⟩
theorem fX1_9 : zFl RX1 9 1 0 0 false .int := ⟨RX1, TX1, 3, tyX1, rfl, by decide, rfl, rfl, inX1g, tyX1_ok, nmX1, rfl, rfl, rfl, Or.inl (gm 244 (by decide +kernel) rfl)⟩
theorem fX10_145 : zFl RX10 145 1 0 0 false .int := ⟨RX1, TX1, 3, tyX1, rfl, by decide, rfl, rfl, inX1g, tyX1_ok, nmX1, rfl, rfl, rfl, Or.inr ⟨"GrudgeYard", nm_ 245 (by decide +kernel) rfl⟩⟩
theorem fX1_15 : zFl RX1 15 1 1 0 false .int := ⟨RX1, TX1, 3, tyX1, rfl, by decide, rfl, rfl, inX1g, tyX1_ok, nmX1, rfl, rfl, rfl, Or.inl (gm 246 (by decide +kernel) rfl)⟩
theorem fX1_18 : zFl RX1 18 1 2 0 false .int := ⟨RX1, TX1, 3, tyX1, rfl, by decide, rfl, rfl, inX1g, tyX1_ok, nmX1, rfl, rfl, rfl, Or.inl (gm 247 (by decide +kernel) rfl)⟩
theorem fX4_21 : zFl RX4 21 4 0 2 true (.array .int) := ⟨RX4, TX4, 4, tyX4, rfl, by decide, rfl, rfl, inX4g, tyX4_ok, nmX4, rfl, rfl, rfl, Or.inl (gm 264 (by decide +kernel) rfl)⟩
theorem ffX4_21 : ∀ q, classes[4]? = some q → q.1 = RX4 ∧ Cond.fieldLink RX4 21 q.1 (q.2.1 0).2.1 (q.2.1 0).2.2.1 ∈ lw_good := fun q h => by cases h; exact ⟨rfl, gm 264 (by decide +kernel) rfl⟩
theorem fX4_25 : zFl RX4 25 4 1 2 true (.array .int) := ⟨RX4, TX4, 4, tyX4, rfl, by decide, rfl, rfl, inX4g, tyX4_ok, nmX4, rfl, rfl, rfl, Or.inl (gm 265 (by decide +kernel) rfl)⟩
theorem ffX4_25 : ∀ q, classes[4]? = some q → q.1 = RX4 ∧ Cond.fieldLink RX4 25 q.1 (q.2.1 1).2.1 (q.2.1 1).2.2.1 ∈ lw_good := fun q h => by cases h; exact ⟨rfl, gm 265 (by decide +kernel) rfl⟩
theorem fX4_28 : zFl RX4 28 4 2 2 true (.array .int) := ⟨RX4, TX4, 4, tyX4, rfl, by decide, rfl, rfl, inX4g, tyX4_ok, nmX4, rfl, rfl, rfl, Or.inl (gm 266 (by decide +kernel) rfl)⟩
theorem ffX4_28 : ∀ q, classes[4]? = some q → q.1 = RX4 ∧ Cond.fieldLink RX4 28 q.1 (q.2.1 2).2.1 (q.2.1 2).2.2.1 ∈ lw_good := fun q h => by cases h; exact ⟨rfl, gm 266 (by decide +kernel) rfl⟩
theorem fX4_9 : zFl RX4 9 4 3 0 false .int := ⟨RX4, TX4, 4, tyX4, rfl, by decide, rfl, rfl, inX4g, tyX4_ok, nmX4, rfl, rfl, rfl, Or.inl (gm 267 (by decide +kernel) rfl)⟩
theorem fX2_27 : zFl RX2 27 4 3 0 false .int := ⟨RX4, TX4, 4, tyX4, rfl, by decide, rfl, rfl, inX4g, tyX4_ok, nmX4, rfl, rfl, rfl, Or.inr ⟨"GrudgeYard", nm_ 268 (by decide +kernel) rfl⟩⟩
theorem fX10_148 : zFl RX10 148 4 3 0 false .int := ⟨RX4, TX4, 4, tyX4, rfl, by decide, rfl, rfl, inX4g, tyX4_ok, nmX4, rfl, rfl, rfl, Or.inr ⟨"GrudgeYard", nm_ 269 (by decide +kernel) rfl⟩⟩
theorem fX0_9 : zFl RX0 9 0 0 2 true (.array .int) := ⟨RX0, TX0, 7, tyX0, rfl, by decide, rfl, rfl, inX0g, tyX0_ok, nmX0, rfl, rfl, rfl, Or.inl (gm 285 (by decide +kernel) rfl)⟩
theorem ffX0_9 : ∀ q, classes[0]? = some q → q.1 = RX0 ∧ Cond.fieldLink RX0 9 q.1 (q.2.1 0).2.1 (q.2.1 0).2.2.1 ∈ lw_good := fun q h => by cases h; exact ⟨rfl, gm 285 (by decide +kernel) rfl⟩
theorem fX0_15 : zFl RX0 15 0 1 2 true (.array .int) := ⟨RX0, TX0, 7, tyX0, rfl, by decide, rfl, rfl, inX0g, tyX0_ok, nmX0, rfl, rfl, rfl, Or.inl (gm 286 (by decide +kernel) rfl)⟩
theorem ffX0_15 : ∀ q, classes[0]? = some q → q.1 = RX0 ∧ Cond.fieldLink RX0 15 q.1 (q.2.1 1).2.1 (q.2.1 1).2.2.1 ∈ lw_good := fun q h => by cases h; exact ⟨rfl, gm 286 (by decide +kernel) rfl⟩
theorem fX0_18 : zFl RX0 18 0 2 2 true (.array .int) := ⟨RX0, TX0, 7, tyX0, rfl, by decide, rfl, rfl, inX0g, tyX0_ok, nmX0, rfl, rfl, rfl, Or.inl (gm 287 (by decide +kernel) rfl)⟩
theorem ffX0_18 : ∀ q, classes[0]? = some q → q.1 = RX0 ∧ Cond.fieldLink RX0 18 q.1 (q.2.1 2).2.1 (q.2.1 2).2.2.1 ∈ lw_good := fun q h => by cases h; exact ⟨rfl, gm 287 (by decide +kernel) rfl⟩
theorem fX0_21 : zFl RX0 21 0 3 2 true (.array .int) := ⟨RX0, TX0, 7, tyX0, rfl, by decide, rfl, rfl, inX0g, tyX0_ok, nmX0, rfl, rfl, rfl, Or.inl (gm 288 (by decide +kernel) rfl)⟩
theorem ffX0_21 : ∀ q, classes[0]? = some q → q.1 = RX0 ∧ Cond.fieldLink RX0 21 q.1 (q.2.1 3).2.1 (q.2.1 3).2.2.1 ∈ lw_good := fun q h => by cases h; exact ⟨rfl, gm 288 (by decide +kernel) rfl⟩
theorem fX0_24 : zFl RX0 24 0 4 0 false .int := ⟨RX0, TX0, 7, tyX0, rfl, by decide, rfl, rfl, inX0g, tyX0_ok, nmX0, rfl, rfl, rfl, Or.inl (gm 289 (by decide +kernel) rfl)⟩
theorem fX2_47 : zFl RX2 47 0 4 0 false .int := ⟨RX0, TX0, 7, tyX0, rfl, by decide, rfl, rfl, inX0g, tyX0_ok, nmX0, rfl, rfl, rfl, Or.inr ⟨"GrudgeYard", nm_ 290 (by decide +kernel) rfl⟩⟩
theorem fX6_40 : zFl RX6 40 0 4 0 false .int := ⟨RX0, TX0, 7, tyX0, rfl, by decide, rfl, rfl, inX0g, tyX0_ok, nmX0, rfl, rfl, rfl, Or.inr ⟨"GrudgeYard", nm_ 291 (by decide +kernel) rfl⟩⟩
theorem fX10_271 : zFl RX10 271 0 4 0 false .int := ⟨RX0, TX0, 7, tyX0, rfl, by decide, rfl, rfl, inX0g, tyX0_ok, nmX0, rfl, rfl, rfl, Or.inr ⟨"GrudgeYard", nm_ 292 (by decide +kernel) rfl⟩⟩
theorem fX0_28 : zFl RX0 28 0 5 0 false .int := ⟨RX0, TX0, 7, tyX0, rfl, by decide, rfl, rfl, inX0g, tyX0_ok, nmX0, rfl, rfl, rfl, Or.inl (gm 293 (by decide +kernel) rfl)⟩
theorem fX6_29 : zFl RX6 29 0 5 0 false .int := ⟨RX0, TX0, 7, tyX0, rfl, by decide, rfl, rfl, inX0g, tyX0_ok, nmX0, rfl, rfl, rfl, Or.inr ⟨"GrudgeYard", nm_ 294 (by decide +kernel) rfl⟩⟩
theorem fX2_81 : zFl RX2 81 0 5 0 false .int := ⟨RX0, TX0, 7, tyX0, rfl, by decide, rfl, rfl, inX0g, tyX0_ok, nmX0, rfl, rfl, rfl, Or.inr ⟨"GrudgeYard", nm_ 295 (by decide +kernel) rfl⟩⟩
theorem fX10_248 : zFl RX10 248 0 5 0 false .int := ⟨RX0, TX0, 7, tyX0, rfl, by decide, rfl, rfl, inX0g, tyX0_ok, nmX0, rfl, rfl, rfl, Or.inr ⟨"GrudgeYard", nm_ 296 (by decide +kernel) rfl⟩⟩
theorem fX0_31 : zFl RX0 31 0 6 0 false .int := ⟨RX0, TX0, 7, tyX0, rfl, by decide, rfl, rfl, inX0g, tyX0_ok, nmX0, rfl, rfl, rfl, Or.inl (gm 297 (by decide +kernel) rfl)⟩
theorem fX6_9 : zFl RX6 9 6 0 2 true (.array .int) := ⟨RX6, TX6, 4, tyX6, rfl, by decide, rfl, rfl, inX6g, tyX6_ok, nmX6, rfl, rfl, rfl, Or.inl (gm 319 (by decide +kernel) rfl)⟩
theorem ffX6_9 : ∀ q, classes[6]? = some q → q.1 = RX6 ∧ Cond.fieldLink RX6 9 q.1 (q.2.1 0).2.1 (q.2.1 0).2.2.1 ∈ lw_good := fun q h => by cases h; exact ⟨rfl, gm 319 (by decide +kernel) rfl⟩
theorem fX6_15 : zFl RX6 15 6 1 2 true (.array .int) := ⟨RX6, TX6, 4, tyX6, rfl, by decide, rfl, rfl, inX6g, tyX6_ok, nmX6, rfl, rfl, rfl, Or.inl (gm 320 (by decide +kernel) rfl)⟩
theorem ffX6_15 : ∀ q, classes[6]? = some q → q.1 = RX6 ∧ Cond.fieldLink RX6 15 q.1 (q.2.1 1).2.1 (q.2.1 1).2.2.1 ∈ lw_good := fun q h => by cases h; exact ⟨rfl, gm 320 (by decide +kernel) rfl⟩
theorem fX6_18 : zFl RX6 18 6 2 0 false .int := ⟨RX6, TX6, 4, tyX6, rfl, by decide, rfl, rfl, inX6g, tyX6_ok, nmX6, rfl, rfl, rfl, Or.inl (gm 321 (by decide +kernel) rfl)⟩
theorem fX10_242 : zFl RX10 242 6 2 0 false .int := ⟨RX6, TX6, 4, tyX6, rfl, by decide, rfl, rfl, inX6g, tyX6_ok, nmX6, rfl, rfl, rfl, Or.inr ⟨"GrudgeYard", nm_ 322 (by decide +kernel) rfl⟩⟩
theorem fX6_22 : zFl RX6 22 6 3 0 false .int := ⟨RX6, TX6, 4, tyX6, rfl, by decide, rfl, rfl, inX6g, tyX6_ok, nmX6, rfl, rfl, rfl, Or.inl (gm 323 (by decide +kernel) rfl)⟩
theorem fX10_245 : zFl RX10 245 6 3 0 false .int := ⟨RX6, TX6, 4, tyX6, rfl, by decide, rfl, rfl, inX6g, tyX6_ok, nmX6, rfl, rfl, rfl, Or.inr ⟨"GrudgeYard", nm_ 324 (by decide +kernel) rfl⟩⟩
theorem fX2_11 : zFl RX2 11 2 0 2 true (.array .int) := ⟨RX2, TX2, 3, tyX2, rfl, by decide, rfl, rfl, inX2g, tyX2_ok, nmX2, rfl, rfl, rfl, Or.inl (gm 340 (by decide +kernel) rfl)⟩
theorem ffX2_11 : ∀ q, classes[2]? = some q → q.1 = RX2 ∧ Cond.fieldLink RX2 11 q.1 (q.2.1 0).2.1 (q.2.1 0).2.2.1 ∈ lw_good := fun q h => by cases h; exact ⟨rfl, gm 340 (by decide +kernel) rfl⟩
theorem fX2_15 : zFl RX2 15 2 1 2 true (.array .int) := ⟨RX2, TX2, 3, tyX2, rfl, by decide, rfl, rfl, inX2g, tyX2_ok, nmX2, rfl, rfl, rfl, Or.inl (gm 341 (by decide +kernel) rfl)⟩
theorem ffX2_15 : ∀ q, classes[2]? = some q → q.1 = RX2 ∧ Cond.fieldLink RX2 15 q.1 (q.2.1 1).2.1 (q.2.1 1).2.2.1 ∈ lw_good := fun q h => by cases h; exact ⟨rfl, gm 341 (by decide +kernel) rfl⟩
theorem fX2_18 : zFl RX2 18 2 2 2 true (.array .int) := ⟨RX2, TX2, 3, tyX2, rfl, by decide, rfl, rfl, inX2g, tyX2_ok, nmX2, rfl, rfl, rfl, Or.inl (gm 342 (by decide +kernel) rfl)⟩
theorem ffX2_18 : ∀ q, classes[2]? = some q → q.1 = RX2 ∧ Cond.fieldLink RX2 18 q.1 (q.2.1 2).2.1 (q.2.1 2).2.2.1 ∈ lw_good := fun q h => by cases h; exact ⟨rfl, gm 342 (by decide +kernel) rfl⟩
theorem fX9_9 : zFl RX9 9 9 0 2 true (.array .int) := ⟨RX9, TX9, 10, tyX9, rfl, by decide, rfl, rfl, inX9g, tyX9_ok, nmX9, rfl, rfl, rfl, Or.inl (gm 356 (by decide +kernel) rfl)⟩
theorem ffX9_9 : ∀ q, classes[9]? = some q → q.1 = RX9 ∧ Cond.fieldLink RX9 9 q.1 (q.2.1 0).2.1 (q.2.1 0).2.2.1 ∈ lw_good := fun q h => by cases h; exact ⟨rfl, gm 356 (by decide +kernel) rfl⟩
theorem fX9_15 : zFl RX9 15 9 1 2 true (.array .int) := ⟨RX9, TX9, 10, tyX9, rfl, by decide, rfl, rfl, inX9g, tyX9_ok, nmX9, rfl, rfl, rfl, Or.inl (gm 357 (by decide +kernel) rfl)⟩
theorem ffX9_15 : ∀ q, classes[9]? = some q → q.1 = RX9 ∧ Cond.fieldLink RX9 15 q.1 (q.2.1 1).2.1 (q.2.1 1).2.2.1 ∈ lw_good := fun q h => by cases h; exact ⟨rfl, gm 357 (by decide +kernel) rfl⟩
theorem fX9_18 : zFl RX9 18 9 2 2 true (.array .int) := ⟨RX9, TX9, 10, tyX9, rfl, by decide, rfl, rfl, inX9g, tyX9_ok, nmX9, rfl, rfl, rfl, Or.inl (gm 358 (by decide +kernel) rfl)⟩
theorem ffX9_18 : ∀ q, classes[9]? = some q → q.1 = RX9 ∧ Cond.fieldLink RX9 18 q.1 (q.2.1 2).2.1 (q.2.1 2).2.2.1 ∈ lw_good := fun q h => by cases h; exact ⟨rfl, gm 358 (by decide +kernel) rfl⟩
theorem fX10_157 : zFl RX10 157 9 2 2 true (.array .int) := ⟨RX9, TX9, 10, tyX9, rfl, by decide, rfl, rfl, inX9g, tyX9_ok, nmX9, rfl, rfl, rfl, Or.inr ⟨"GrudgeYard", nm_ 359 (by decide +kernel) rfl⟩⟩
theorem fX9_21 : zFl RX9 21 9 3 2 true (.array .int) := ⟨RX9, TX9, 10, tyX9, rfl, by decide, rfl, rfl, inX9g, tyX9_ok, nmX9, rfl, rfl, rfl, Or.inl (gm 360 (by decide +kernel) rfl)⟩
theorem ffX9_21 : ∀ q, classes[9]? = some q → q.1 = RX9 ∧ Cond.fieldLink RX9 21 q.1 (q.2.1 3).2.1 (q.2.1 3).2.2.1 ∈ lw_good := fun q h => by cases h; exact ⟨rfl, gm 360 (by decide +kernel) rfl⟩
theorem fX10_161 : zFl RX10 161 9 3 2 true (.array .int) := ⟨RX9, TX9, 10, tyX9, rfl, by decide, rfl, rfl, inX9g, tyX9_ok, nmX9, rfl, rfl, rfl, Or.inr ⟨"GrudgeYard", nm_ 361 (by decide +kernel) rfl⟩⟩
theorem fX9_24 : zFl RX9 24 9 4 2 true (.array .int) := ⟨RX9, TX9, 10, tyX9, rfl, by decide, rfl, rfl, inX9g, tyX9_ok, nmX9, rfl, rfl, rfl, Or.inl (gm 362 (by decide +kernel) rfl)⟩
theorem ffX9_24 : ∀ q, classes[9]? = some q → q.1 = RX9 ∧ Cond.fieldLink RX9 24 q.1 (q.2.1 4).2.1 (q.2.1 4).2.2.1 ∈ lw_good := fun q h => by cases h; exact ⟨rfl, gm 362 (by decide +kernel) rfl⟩
theorem fX9_27 : zFl RX9 27 9 5 2 true (.array .int) := ⟨RX9, TX9, 10, tyX9, rfl, by decide, rfl, rfl, inX9g, tyX9_ok, nmX9, rfl, rfl, rfl, Or.inl (gm 363 (by decide +kernel) rfl)⟩
theorem ffX9_27 : ∀ q, classes[9]? = some q → q.1 = RX9 ∧ Cond.fieldLink RX9 27 q.1 (q.2.1 5).2.1 (q.2.1 5).2.2.1 ∈ lw_good := fun q h => by cases h; exact ⟨rfl, gm 363 (by decide +kernel) rfl⟩
theorem fX9_30 : zFl RX9 30 9 6 0 false .int := ⟨RX9, TX9, 10, tyX9, rfl, by decide, rfl, rfl, inX9g, tyX9_ok, nmX9, rfl, rfl, rfl, Or.inl (gm 364 (by decide +kernel) rfl)⟩
theorem fX0_34 : zFl RX0 34 9 6 0 false .int := ⟨RX9, TX9, 10, tyX9, rfl, by decide, rfl, rfl, inX9g, tyX9_ok, nmX9, rfl, rfl, rfl, Or.inr ⟨"GrudgeYard", nm_ 365 (by decide +kernel) rfl⟩⟩
theorem fX7_55 : zFl RX7 55 9 6 0 false .int := ⟨RX9, TX9, 10, tyX9, rfl, by decide, rfl, rfl, inX9g, tyX9_ok, nmX9, rfl, rfl, rfl, Or.inr ⟨"GrudgeYard", nm_ 366 (by decide +kernel) rfl⟩⟩
theorem fX10_126 : zFl RX10 126 9 6 0 false .int := ⟨RX9, TX9, 10, tyX9, rfl, by decide, rfl, rfl, inX9g, tyX9_ok, nmX9, rfl, rfl, rfl, Or.inr ⟨"GrudgeYard", nm_ 367 (by decide +kernel) rfl⟩⟩
theorem fX9_34 : zFl RX9 34 9 7 0 false .int := ⟨RX9, TX9, 10, tyX9, rfl, by decide, rfl, rfl, inX9g, tyX9_ok, nmX9, rfl, rfl, rfl, Or.inl (gm 368 (by decide +kernel) rfl)⟩
theorem fX10_107 : zFl RX10 107 9 7 0 false .int := ⟨RX9, TX9, 10, tyX9, rfl, by decide, rfl, rfl, inX9g, tyX9_ok, nmX9, rfl, rfl, rfl, Or.inr ⟨"GrudgeYard", nm_ 369 (by decide +kernel) rfl⟩⟩
theorem fX7_99 : zFl RX7 99 9 7 0 false .int := ⟨RX9, TX9, 10, tyX9, rfl, by decide, rfl, rfl, inX9g, tyX9_ok, nmX9, rfl, rfl, rfl, Or.inr ⟨"GrudgeYard", nm_ 370 (by decide +kernel) rfl⟩⟩
theorem fX9_37 : zFl RX9 37 9 8 0 false .int := ⟨RX9, TX9, 10, tyX9, rfl, by decide, rfl, rfl, inX9g, tyX9_ok, nmX9, rfl, rfl, rfl, Or.inl (gm 371 (by decide +kernel) rfl)⟩
theorem fX0_61 : zFl RX0 61 9 8 0 false .int := ⟨RX9, TX9, 10, tyX9, rfl, by decide, rfl, rfl, inX9g, tyX9_ok, nmX9, rfl, rfl, rfl, Or.inr ⟨"GrudgeYard", nm_ 372 (by decide +kernel) rfl⟩⟩
theorem fX9_40 : zFl RX9 40 9 9 0 false .int := ⟨RX9, TX9, 10, tyX9, rfl, by decide, rfl, rfl, inX9g, tyX9_ok, nmX9, rfl, rfl, rfl, Or.inl (gm 373 (by decide +kernel) rfl)⟩
theorem fX10_129 : zFl RX10 129 9 9 0 false .int := ⟨RX9, TX9, 10, tyX9, rfl, by decide, rfl, rfl, inX9g, tyX9_ok, nmX9, rfl, rfl, rfl, Or.inr ⟨"GrudgeYard", nm_ 374 (by decide +kernel) rfl⟩⟩
theorem fX10_10 : zFl RX10 10 10 0 2 true (.object "GrudgeYard$Reader") := ⟨RX10, TX10, 14, tyX10, rfl, by decide, rfl, rfl, inX10g, tyX10_ok, nmX10, rfl, rfl, rfl, Or.inl (gm 396 (by decide +kernel) rfl)⟩
theorem ffX10_10 : ∀ q, classes[10]? = some q → q.1 = RX10 ∧ Cond.fieldLink RX10 10 q.1 (q.2.1 0).2.1 (q.2.1 0).2.2.1 ∈ lw_good := fun q h => by cases h; exact ⟨rfl, gm 396 (by decide +kernel) rfl⟩
theorem fX10_19 : zFl RX10 19 10 1 2 true (.object "GrudgeYard$Stand") := ⟨RX10, TX10, 14, tyX10, rfl, by decide, rfl, rfl, inX10g, tyX10_ok, nmX10, rfl, rfl, rfl, Or.inl (gm 397 (by decide +kernel) rfl)⟩
theorem ffX10_19 : ∀ q, classes[10]? = some q → q.1 = RX10 ∧ Cond.fieldLink RX10 19 q.1 (q.2.1 1).2.1 (q.2.1 1).2.2.1 ∈ lw_good := fun q h => by cases h; exact ⟨rfl, gm 397 (by decide +kernel) rfl⟩
theorem fX10_26 : zFl RX10 26 10 2 2 true (.object "GrudgeYard$Past") := ⟨RX10, TX10, 14, tyX10, rfl, by decide, rfl, rfl, inX10g, tyX10_ok, nmX10, rfl, rfl, rfl, Or.inl (gm 398 (by decide +kernel) rfl)⟩
theorem ffX10_26 : ∀ q, classes[10]? = some q → q.1 = RX10 ∧ Cond.fieldLink RX10 26 q.1 (q.2.1 2).2.1 (q.2.1 2).2.2.1 ∈ lw_good := fun q h => by cases h; exact ⟨rfl, gm 398 (by decide +kernel) rfl⟩
theorem fX10_33 : zFl RX10 33 10 3 2 true (.object "GrudgeYard$Image") := ⟨RX10, TX10, 14, tyX10, rfl, by decide, rfl, rfl, inX10g, tyX10_ok, nmX10, rfl, rfl, rfl, Or.inl (gm 399 (by decide +kernel) rfl)⟩
theorem ffX10_33 : ∀ q, classes[10]? = some q → q.1 = RX10 ∧ Cond.fieldLink RX10 33 q.1 (q.2.1 3).2.1 (q.2.1 3).2.2.1 ∈ lw_good := fun q h => by cases h; exact ⟨rfl, gm 399 (by decide +kernel) rfl⟩
theorem fX10_37 : zFl RX10 37 10 4 2 true (.object "GrudgeYard$Image") := ⟨RX10, TX10, 14, tyX10, rfl, by decide, rfl, rfl, inX10g, tyX10_ok, nmX10, rfl, rfl, rfl, Or.inl (gm 400 (by decide +kernel) rfl)⟩
theorem ffX10_37 : ∀ q, classes[10]? = some q → q.1 = RX10 ∧ Cond.fieldLink RX10 37 q.1 (q.2.1 4).2.1 (q.2.1 4).2.2.1 ∈ lw_good := fun q h => by cases h; exact ⟨rfl, gm 400 (by decide +kernel) rfl⟩
theorem fX10_43 : zFl RX10 43 10 5 2 true (.object "GrudgeYard$Couplings") := ⟨RX10, TX10, 14, tyX10, rfl, by decide, rfl, rfl, inX10g, tyX10_ok, nmX10, rfl, rfl, rfl, Or.inl (gm 401 (by decide +kernel) rfl)⟩
theorem ffX10_43 : ∀ q, classes[10]? = some q → q.1 = RX10 ∧ Cond.fieldLink RX10 43 q.1 (q.2.1 5).2.1 (q.2.1 5).2.2.1 ∈ lw_good := fun q h => by cases h; exact ⟨rfl, gm 401 (by decide +kernel) rfl⟩
theorem fX10_52 : zFl RX10 52 10 6 2 true (.object "GrudgeYard$Notes") := ⟨RX10, TX10, 14, tyX10, rfl, by decide, rfl, rfl, inX10g, tyX10_ok, nmX10, rfl, rfl, rfl, Or.inl (gm 402 (by decide +kernel) rfl)⟩
theorem ffX10_52 : ∀ q, classes[10]? = some q → q.1 = RX10 ∧ Cond.fieldLink RX10 52 q.1 (q.2.1 6).2.1 (q.2.1 6).2.2.1 ∈ lw_good := fun q h => by cases h; exact ⟨rfl, gm 402 (by decide +kernel) rfl⟩
theorem fX10_56 : zFl RX10 56 10 7 2 true (.object "GrudgeYard$Notes") := ⟨RX10, TX10, 14, tyX10, rfl, by decide, rfl, rfl, inX10g, tyX10_ok, nmX10, rfl, rfl, rfl, Or.inl (gm 403 (by decide +kernel) rfl)⟩
theorem ffX10_56 : ∀ q, classes[10]? = some q → q.1 = RX10 ∧ Cond.fieldLink RX10 56 q.1 (q.2.1 7).2.1 (q.2.1 7).2.2.1 ∈ lw_good := fun q h => by cases h; exact ⟨rfl, gm 403 (by decide +kernel) rfl⟩
theorem fX10_62 : zFl RX10 62 10 8 2 true (.object "GrudgeYard$Board") := ⟨RX10, TX10, 14, tyX10, rfl, by decide, rfl, rfl, inX10g, tyX10_ok, nmX10, rfl, rfl, rfl, Or.inl (gm 404 (by decide +kernel) rfl)⟩
theorem ffX10_62 : ∀ q, classes[10]? = some q → q.1 = RX10 ∧ Cond.fieldLink RX10 62 q.1 (q.2.1 8).2.1 (q.2.1 8).2.2.1 ∈ lw_good := fun q h => by cases h; exact ⟨rfl, gm 404 (by decide +kernel) rfl⟩
theorem fX10_69 : zFl RX10 69 10 9 2 true (.object "GrudgeYard$Planner") := ⟨RX10, TX10, 14, tyX10, rfl, by decide, rfl, rfl, inX10g, tyX10_ok, nmX10, rfl, rfl, rfl, Or.inl (gm 405 (by decide +kernel) rfl)⟩
theorem ffX10_69 : ∀ q, classes[10]? = some q → q.1 = RX10 ∧ Cond.fieldLink RX10 69 q.1 (q.2.1 9).2.1 (q.2.1 9).2.2.1 ∈ lw_good := fun q h => by cases h; exact ⟨rfl, gm 405 (by decide +kernel) rfl⟩
theorem fX10_76 : zFl RX10 76 10 10 2 true (.object "GrudgeYard$Fitting") := ⟨RX10, TX10, 14, tyX10, rfl, by decide, rfl, rfl, inX10g, tyX10_ok, nmX10, rfl, rfl, rfl, Or.inl (gm 406 (by decide +kernel) rfl)⟩
theorem ffX10_76 : ∀ q, classes[10]? = some q → q.1 = RX10 ∧ Cond.fieldLink RX10 76 q.1 (q.2.1 10).2.1 (q.2.1 10).2.2.1 ∈ lw_good := fun q h => by cases h; exact ⟨rfl, gm 406 (by decide +kernel) rfl⟩
theorem fX10_83 : zFl RX10 83 10 11 2 false (.object "GrudgeYard$Yard") := ⟨RX10, TX10, 14, tyX10, rfl, by decide, rfl, rfl, inX10g, tyX10_ok, nmX10, rfl, rfl, rfl, Or.inl (gm 407 (by decide +kernel) rfl)⟩
theorem fX10_87 : zFl RX10 87 10 12 2 false (.object "GrudgeYard$Yard") := ⟨RX10, TX10, 14, tyX10, rfl, by decide, rfl, rfl, inX10g, tyX10_ok, nmX10, rfl, rfl, rfl, Or.inl (gm 408 (by decide +kernel) rfl)⟩
theorem fX10_90 : zFl RX10 90 10 13 0 false .int := ⟨RX10, TX10, 14, tyX10, rfl, by decide, rfl, rfl, inX10g, tyX10_ok, nmX10, rfl, rfl, rfl, Or.inl (gm 409 (by decide +kernel) rfl)⟩
theorem fX11_7 : zFl RX11 7 11 0 2 true (.array .int) := ⟨RX11, TX11, 36, tyX11, rfl, by decide, rfl, rfl, inX11g, tyX11_ok, nmX11, rfl, rfl, rfl, Or.inl (gm 1006 (by decide +kernel) rfl)⟩
theorem ffX11_7 : ∀ q, classes[11]? = some q → q.1 = RX11 ∧ Cond.fieldLink RX11 7 q.1 (q.2.1 0).2.1 (q.2.1 0).2.2.1 ∈ lw_good := fun q h => by cases h; exact ⟨rfl, gm 1006 (by decide +kernel) rfl⟩
theorem fX11_13 : zFl RX11 13 11 1 2 true (.array .int) := ⟨RX11, TX11, 36, tyX11, rfl, by decide, rfl, rfl, inX11g, tyX11_ok, nmX11, rfl, rfl, rfl, Or.inl (gm 1007 (by decide +kernel) rfl)⟩
theorem ffX11_13 : ∀ q, classes[11]? = some q → q.1 = RX11 ∧ Cond.fieldLink RX11 13 q.1 (q.2.1 1).2.1 (q.2.1 1).2.2.1 ∈ lw_good := fun q h => by cases h; exact ⟨rfl, gm 1007 (by decide +kernel) rfl⟩
theorem fX11_16 : zFl RX11 16 11 2 2 true (.array .int) := ⟨RX11, TX11, 36, tyX11, rfl, by decide, rfl, rfl, inX11g, tyX11_ok, nmX11, rfl, rfl, rfl, Or.inl (gm 1008 (by decide +kernel) rfl)⟩
theorem ffX11_16 : ∀ q, classes[11]? = some q → q.1 = RX11 ∧ Cond.fieldLink RX11 16 q.1 (q.2.1 2).2.1 (q.2.1 2).2.2.1 ∈ lw_good := fun q h => by cases h; exact ⟨rfl, gm 1008 (by decide +kernel) rfl⟩
theorem fX11_19 : zFl RX11 19 11 3 2 true (.array .int) := ⟨RX11, TX11, 36, tyX11, rfl, by decide, rfl, rfl, inX11g, tyX11_ok, nmX11, rfl, rfl, rfl, Or.inl (gm 1009 (by decide +kernel) rfl)⟩
theorem ffX11_19 : ∀ q, classes[11]? = some q → q.1 = RX11 ∧ Cond.fieldLink RX11 19 q.1 (q.2.1 3).2.1 (q.2.1 3).2.2.1 ∈ lw_good := fun q h => by cases h; exact ⟨rfl, gm 1009 (by decide +kernel) rfl⟩
theorem fX11_87 : zFl RX11 87 11 4 0 false .int := ⟨RX11, TX11, 36, tyX11, rfl, by decide, rfl, rfl, inX11g, tyX11_ok, nmX11, rfl, rfl, rfl, Or.inl (gm 1010 (by decide +kernel) rfl)⟩
theorem fX11_22 : zFl RX11 22 11 5 2 true (.array .int) := ⟨RX11, TX11, 36, tyX11, rfl, by decide, rfl, rfl, inX11g, tyX11_ok, nmX11, rfl, rfl, rfl, Or.inl (gm 1011 (by decide +kernel) rfl)⟩
theorem ffX11_22 : ∀ q, classes[11]? = some q → q.1 = RX11 ∧ Cond.fieldLink RX11 22 q.1 (q.2.1 5).2.1 (q.2.1 5).2.2.1 ∈ lw_good := fun q h => by cases h; exact ⟨rfl, gm 1011 (by decide +kernel) rfl⟩
theorem fX11_25 : zFl RX11 25 11 6 2 true (.array .boolean) := ⟨RX11, TX11, 36, tyX11, rfl, by decide, rfl, rfl, inX11g, tyX11_ok, nmX11, rfl, rfl, rfl, Or.inl (gm 1012 (by decide +kernel) rfl)⟩
theorem ffX11_25 : ∀ q, classes[11]? = some q → q.1 = RX11 ∧ Cond.fieldLink RX11 25 q.1 (q.2.1 6).2.1 (q.2.1 6).2.2.1 ∈ lw_good := fun q h => by cases h; exact ⟨rfl, gm 1012 (by decide +kernel) rfl⟩
theorem fX11_219 : zFl RX11 219 11 7 1 false .long := ⟨RX11, TX11, 36, tyX11, rfl, by decide, rfl, rfl, inX11g, tyX11_ok, nmX11, rfl, rfl, rfl, Or.inl (gm 1013 (by decide +kernel) rfl)⟩
theorem fX11_29 : zFl RX11 29 11 8 2 true (.array .int) := ⟨RX11, TX11, 36, tyX11, rfl, by decide, rfl, rfl, inX11g, tyX11_ok, nmX11, rfl, rfl, rfl, Or.inl (gm 1014 (by decide +kernel) rfl)⟩
theorem ffX11_29 : ∀ q, classes[11]? = some q → q.1 = RX11 ∧ Cond.fieldLink RX11 29 q.1 (q.2.1 8).2.1 (q.2.1 8).2.2.1 ∈ lw_good := fun q h => by cases h; exact ⟨rfl, gm 1014 (by decide +kernel) rfl⟩
theorem fX11_106 : zFl RX11 106 11 9 0 false .int := ⟨RX11, TX11, 36, tyX11, rfl, by decide, rfl, rfl, inX11g, tyX11_ok, nmX11, rfl, rfl, rfl, Or.inl (gm 1015 (by decide +kernel) rfl)⟩
theorem fX11_32 : zFl RX11 32 11 10 0 false .int := ⟨RX11, TX11, 36, tyX11, rfl, by decide, rfl, rfl, inX11g, tyX11_ok, nmX11, rfl, rfl, rfl, Or.inl (gm 1016 (by decide +kernel) rfl)⟩
theorem fX11_36 : zFl RX11 36 11 11 2 true (.array .int) := ⟨RX11, TX11, 36, tyX11, rfl, by decide, rfl, rfl, inX11g, tyX11_ok, nmX11, rfl, rfl, rfl, Or.inl (gm 1017 (by decide +kernel) rfl)⟩
theorem ffX11_36 : ∀ q, classes[11]? = some q → q.1 = RX11 ∧ Cond.fieldLink RX11 36 q.1 (q.2.1 11).2.1 (q.2.1 11).2.2.1 ∈ lw_good := fun q h => by cases h; exact ⟨rfl, gm 1017 (by decide +kernel) rfl⟩
theorem fX11_90 : zFl RX11 90 11 12 0 false .int := ⟨RX11, TX11, 36, tyX11, rfl, by decide, rfl, rfl, inX11g, tyX11_ok, nmX11, rfl, rfl, rfl, Or.inl (gm 1018 (by decide +kernel) rfl)⟩
theorem fX11_39 : zFl RX11 39 11 13 2 true (.array .int) := ⟨RX11, TX11, 36, tyX11, rfl, by decide, rfl, rfl, inX11g, tyX11_ok, nmX11, rfl, rfl, rfl, Or.inl (gm 1019 (by decide +kernel) rfl)⟩
theorem ffX11_39 : ∀ q, classes[11]? = some q → q.1 = RX11 ∧ Cond.fieldLink RX11 39 q.1 (q.2.1 13).2.1 (q.2.1 13).2.2.1 ∈ lw_good := fun q h => by cases h; exact ⟨rfl, gm 1019 (by decide +kernel) rfl⟩
theorem fX11_93 : zFl RX11 93 11 14 0 false .int := ⟨RX11, TX11, 36, tyX11, rfl, by decide, rfl, rfl, inX11g, tyX11_ok, nmX11, rfl, rfl, rfl, Or.inl (gm 1020 (by decide +kernel) rfl)⟩
theorem fX11_42 : zFl RX11 42 11 15 2 true (.array .int) := ⟨RX11, TX11, 36, tyX11, rfl, by decide, rfl, rfl, inX11g, tyX11_ok, nmX11, rfl, rfl, rfl, Or.inl (gm 1021 (by decide +kernel) rfl)⟩
theorem ffX11_42 : ∀ q, classes[11]? = some q → q.1 = RX11 ∧ Cond.fieldLink RX11 42 q.1 (q.2.1 15).2.1 (q.2.1 15).2.2.1 ∈ lw_good := fun q h => by cases h; exact ⟨rfl, gm 1021 (by decide +kernel) rfl⟩
theorem fX11_96 : zFl RX11 96 11 16 0 false .int := ⟨RX11, TX11, 36, tyX11, rfl, by decide, rfl, rfl, inX11g, tyX11_ok, nmX11, rfl, rfl, rfl, Or.inl (gm 1022 (by decide +kernel) rfl)⟩
theorem fX11_110 : zFl RX11 110 11 17 0 false .int := ⟨RX11, TX11, 36, tyX11, rfl, by decide, rfl, rfl, inX11g, tyX11_ok, nmX11, rfl, rfl, rfl, Or.inl (gm 1023 (by decide +kernel) rfl)⟩
theorem fX11_117 : zFl RX11 117 11 18 0 false .int := ⟨RX11, TX11, 36, tyX11, rfl, by decide, rfl, rfl, inX11g, tyX11_ok, nmX11, rfl, rfl, rfl, Or.inl (gm 1024 (by decide +kernel) rfl)⟩
theorem fX11_120 : zFl RX11 120 11 19 0 false .int := ⟨RX11, TX11, 36, tyX11, rfl, by decide, rfl, rfl, inX11g, tyX11_ok, nmX11, rfl, rfl, rfl, Or.inl (gm 1025 (by decide +kernel) rfl)⟩
theorem fX11_123 : zFl RX11 123 11 20 0 false .int := ⟨RX11, TX11, 36, tyX11, rfl, by decide, rfl, rfl, inX11g, tyX11_ok, nmX11, rfl, rfl, rfl, Or.inl (gm 1026 (by decide +kernel) rfl)⟩
theorem fX11_126 : zFl RX11 126 11 21 0 false .int := ⟨RX11, TX11, 36, tyX11, rfl, by decide, rfl, rfl, inX11g, tyX11_ok, nmX11, rfl, rfl, rfl, Or.inl (gm 1027 (by decide +kernel) rfl)⟩
theorem fX11_133 : zFl RX11 133 11 22 0 false .int := ⟨RX11, TX11, 36, tyX11, rfl, by decide, rfl, rfl, inX11g, tyX11_ok, nmX11, rfl, rfl, rfl, Or.inl (gm 1028 (by decide +kernel) rfl)⟩
theorem fX11_45 : zFl RX11 45 11 23 2 true (.array .int) := ⟨RX11, TX11, 36, tyX11, rfl, by decide, rfl, rfl, inX11g, tyX11_ok, nmX11, rfl, rfl, rfl, Or.inl (gm 1029 (by decide +kernel) rfl)⟩
theorem ffX11_45 : ∀ q, classes[11]? = some q → q.1 = RX11 ∧ Cond.fieldLink RX11 45 q.1 (q.2.1 23).2.1 (q.2.1 23).2.2.1 ∈ lw_good := fun q h => by cases h; exact ⟨rfl, gm 1029 (by decide +kernel) rfl⟩
theorem fX11_48 : zFl RX11 48 11 24 2 true (.array .int) := ⟨RX11, TX11, 36, tyX11, rfl, by decide, rfl, rfl, inX11g, tyX11_ok, nmX11, rfl, rfl, rfl, Or.inl (gm 1030 (by decide +kernel) rfl)⟩
theorem ffX11_48 : ∀ q, classes[11]? = some q → q.1 = RX11 ∧ Cond.fieldLink RX11 48 q.1 (q.2.1 24).2.1 (q.2.1 24).2.2.1 ∈ lw_good := fun q h => by cases h; exact ⟨rfl, gm 1030 (by decide +kernel) rfl⟩
theorem fX11_51 : zFl RX11 51 11 25 2 true (.array .int) := ⟨RX11, TX11, 36, tyX11, rfl, by decide, rfl, rfl, inX11g, tyX11_ok, nmX11, rfl, rfl, rfl, Or.inl (gm 1031 (by decide +kernel) rfl)⟩
theorem ffX11_51 : ∀ q, classes[11]? = some q → q.1 = RX11 ∧ Cond.fieldLink RX11 51 q.1 (q.2.1 25).2.1 (q.2.1 25).2.2.1 ∈ lw_good := fun q h => by cases h; exact ⟨rfl, gm 1031 (by decide +kernel) rfl⟩
theorem fX11_54 : zFl RX11 54 11 26 2 true (.array .int) := ⟨RX11, TX11, 36, tyX11, rfl, by decide, rfl, rfl, inX11g, tyX11_ok, nmX11, rfl, rfl, rfl, Or.inl (gm 1032 (by decide +kernel) rfl)⟩
theorem ffX11_54 : ∀ q, classes[11]? = some q → q.1 = RX11 ∧ Cond.fieldLink RX11 54 q.1 (q.2.1 26).2.1 (q.2.1 26).2.2.1 ∈ lw_good := fun q h => by cases h; exact ⟨rfl, gm 1032 (by decide +kernel) rfl⟩
theorem fX11_57 : zFl RX11 57 11 27 2 true (.array .int) := ⟨RX11, TX11, 36, tyX11, rfl, by decide, rfl, rfl, inX11g, tyX11_ok, nmX11, rfl, rfl, rfl, Or.inl (gm 1033 (by decide +kernel) rfl)⟩
theorem ffX11_57 : ∀ q, classes[11]? = some q → q.1 = RX11 ∧ Cond.fieldLink RX11 57 q.1 (q.2.1 27).2.1 (q.2.1 27).2.2.1 ∈ lw_good := fun q h => by cases h; exact ⟨rfl, gm 1033 (by decide +kernel) rfl⟩
theorem fX11_60 : zFl RX11 60 11 28 2 true (.array .int) := ⟨RX11, TX11, 36, tyX11, rfl, by decide, rfl, rfl, inX11g, tyX11_ok, nmX11, rfl, rfl, rfl, Or.inl (gm 1034 (by decide +kernel) rfl)⟩
theorem ffX11_60 : ∀ q, classes[11]? = some q → q.1 = RX11 ∧ Cond.fieldLink RX11 60 q.1 (q.2.1 28).2.1 (q.2.1 28).2.2.1 ∈ lw_good := fun q h => by cases h; exact ⟨rfl, gm 1034 (by decide +kernel) rfl⟩
theorem fX11_63 : zFl RX11 63 11 29 2 true (.array .int) := ⟨RX11, TX11, 36, tyX11, rfl, by decide, rfl, rfl, inX11g, tyX11_ok, nmX11, rfl, rfl, rfl, Or.inl (gm 1035 (by decide +kernel) rfl)⟩
theorem ffX11_63 : ∀ q, classes[11]? = some q → q.1 = RX11 ∧ Cond.fieldLink RX11 63 q.1 (q.2.1 29).2.1 (q.2.1 29).2.2.1 ∈ lw_good := fun q h => by cases h; exact ⟨rfl, gm 1035 (by decide +kernel) rfl⟩
theorem fX11_66 : zFl RX11 66 11 30 2 true (.array .int) := ⟨RX11, TX11, 36, tyX11, rfl, by decide, rfl, rfl, inX11g, tyX11_ok, nmX11, rfl, rfl, rfl, Or.inl (gm 1036 (by decide +kernel) rfl)⟩
theorem ffX11_66 : ∀ q, classes[11]? = some q → q.1 = RX11 ∧ Cond.fieldLink RX11 66 q.1 (q.2.1 30).2.1 (q.2.1 30).2.2.1 ∈ lw_good := fun q h => by cases h; exact ⟨rfl, gm 1036 (by decide +kernel) rfl⟩
theorem fX11_69 : zFl RX11 69 11 31 2 true (.array .int) := ⟨RX11, TX11, 36, tyX11, rfl, by decide, rfl, rfl, inX11g, tyX11_ok, nmX11, rfl, rfl, rfl, Or.inl (gm 1037 (by decide +kernel) rfl)⟩
theorem ffX11_69 : ∀ q, classes[11]? = some q → q.1 = RX11 ∧ Cond.fieldLink RX11 69 q.1 (q.2.1 31).2.1 (q.2.1 31).2.2.1 ∈ lw_good := fun q h => by cases h; exact ⟨rfl, gm 1037 (by decide +kernel) rfl⟩
theorem fX11_72 : zFl RX11 72 11 32 2 true (.array .int) := ⟨RX11, TX11, 36, tyX11, rfl, by decide, rfl, rfl, inX11g, tyX11_ok, nmX11, rfl, rfl, rfl, Or.inl (gm 1038 (by decide +kernel) rfl)⟩
theorem ffX11_72 : ∀ q, classes[11]? = some q → q.1 = RX11 ∧ Cond.fieldLink RX11 72 q.1 (q.2.1 32).2.1 (q.2.1 32).2.2.1 ∈ lw_good := fun q h => by cases h; exact ⟨rfl, gm 1038 (by decide +kernel) rfl⟩
theorem fX11_75 : zFl RX11 75 11 33 2 true (.array .int) := ⟨RX11, TX11, 36, tyX11, rfl, by decide, rfl, rfl, inX11g, tyX11_ok, nmX11, rfl, rfl, rfl, Or.inl (gm 1039 (by decide +kernel) rfl)⟩
theorem ffX11_75 : ∀ q, classes[11]? = some q → q.1 = RX11 ∧ Cond.fieldLink RX11 75 q.1 (q.2.1 33).2.1 (q.2.1 33).2.2.1 ∈ lw_good := fun q h => by cases h; exact ⟨rfl, gm 1039 (by decide +kernel) rfl⟩
theorem fX11_78 : zFl RX11 78 11 34 2 true (.array .int) := ⟨RX11, TX11, 36, tyX11, rfl, by decide, rfl, rfl, inX11g, tyX11_ok, nmX11, rfl, rfl, rfl, Or.inl (gm 1040 (by decide +kernel) rfl)⟩
theorem ffX11_78 : ∀ q, classes[11]? = some q → q.1 = RX11 ∧ Cond.fieldLink RX11 78 q.1 (q.2.1 34).2.1 (q.2.1 34).2.2.1 ∈ lw_good := fun q h => by cases h; exact ⟨rfl, gm 1040 (by decide +kernel) rfl⟩
theorem fX11_81 : zFl RX11 81 11 35 2 true (.array .int) := ⟨RX11, TX11, 36, tyX11, rfl, by decide, rfl, rfl, inX11g, tyX11_ok, nmX11, rfl, rfl, rfl, Or.inl (gm 1041 (by decide +kernel) rfl)⟩
theorem ffX11_81 : ∀ q, classes[11]? = some q → q.1 = RX11 ∧ Cond.fieldLink RX11 81 q.1 (q.2.1 35).2.1 (q.2.1 35).2.2.1 ∈ lw_good := fun q h => by cases h; exact ⟨rfl, gm 1041 (by decide +kernel) rfl⟩
theorem cX10_94 : Cond.constant RX10 94 (-1000000002) ∈ lw_good := gm 443 (by decide +kernel) rfl
theorem cX10_102 : Cond.constant RX10 102 (-1000000004) ∈ lw_good := gm 448 (by decide +kernel) rfl
theorem cJ6_265 : Cond.constant RJ6 265 (1431655765) ∈ lw_good := gm 495 (by decide +kernel) rfl
theorem cJ6_266 : Cond.constant RJ6 266 (858993459) ∈ lw_good := gm 496 (by decide +kernel) rfl
theorem cJ6_267 : Cond.constant RJ6 267 (252645135) ∈ lw_good := gm 497 (by decide +kernel) rfl
theorem cX10_153 : Cond.constant RX10 153 (-1000000001) ∈ lw_good := gm 596 (by decide +kernel) rfl
theorem cX10_196 : Cond.constant RX10 196 (-1000000003) ∈ lw_good := gm 665 (by decide +kernel) rfl
theorem cX10_219 : Cond.constant RX10 219 (90000) ∈ lw_good := gm 723 (by decide +kernel) rfl
theorem cX10_321 : Cond.constantLong RX10 321 (1103515245) ∈ lw_good := gm 728 (by decide +kernel) rfl
theorem cX10_323 : Cond.constantLong RX10 323 (12345) ∈ lw_good := gm 729 (by decide +kernel) rfl
theorem cX10_325 : Cond.constantLong RX10 325 (2147483647) ∈ lw_good := gm 730 (by decide +kernel) rfl
theorem cX10_327 : Cond.constant RX10 327 (65536) ∈ lw_good := gm 731 (by decide +kernel) rfl
theorem cX10_284 : Cond.constantLong RX10 284 (1000000000) ∈ lw_good := gm 843 (by decide +kernel) rfl
theorem cX10_286 : Cond.constantLong RX10 286 (100) ∈ lw_good := gm 844 (by decide +kernel) rfl
theorem cJ6_264 : Cond.constant RJ6 264 (65536) ∈ lw_good := gm 963 (by decide +kernel) rfl
theorem cX11_99 : Cond.constantLong RX11 99 (255) ∈ lw_good := gm 1120 (by decide +kernel) rfl
theorem cX11_105 : Cond.constant RX11 105 (-1000000002) ∈ lw_good := gm 1124 (by decide +kernel) rfl
theorem cX11_109 : Cond.constant RX11 109 (-1000000004) ∈ lw_good := gm 1125 (by decide +kernel) rfl
theorem cX11_129 : Cond.constantLong RX11 129 (48) ∈ lw_good := gm 1138 (by decide +kernel) rfl
theorem cX11_131 : Cond.constantLong RX11 131 (57) ∈ lw_good := gm 1139 (by decide +kernel) rfl
theorem cX11_179 : Cond.constant RX11 179 (-1000000001) ∈ lw_good := gm 1191 (by decide +kernel) rfl
theorem cX11_170 : Cond.constantLong RX11 170 (4) ∈ lw_good := gm 1222 (by decide +kernel) rfl
theorem cX11_203 : Cond.constantLong RX11 203 (7) ∈ lw_good := gm 1231 (by decide +kernel) rfl
theorem cX11_208 : Cond.constant RX11 208 (-1000000003) ∈ lw_good := gm 1236 (by decide +kernel) rfl
theorem cX11_231 : Cond.constantLong RX11 231 (60) ∈ lw_good := gm 1268 (by decide +kernel) rfl
theorem cX11_233 : Cond.constant RX11 233 (90000) ∈ lw_good := gm 1269 (by decide +kernel) rfl
theorem cX11_223 : Cond.constantLong RX11 223 (1103515245) ∈ lw_good := gm 1274 (by decide +kernel) rfl
theorem cX11_225 : Cond.constantLong RX11 225 (12345) ∈ lw_good := gm 1275 (by decide +kernel) rfl
theorem cX11_227 : Cond.constantLong RX11 227 (2147483648) ∈ lw_good := gm 1276 (by decide +kernel) rfl
theorem cX11_229 : Cond.constantLong RX11 229 (65536) ∈ lw_good := gm 1277 (by decide +kernel) rfl
theorem cX11_240 : Cond.constant RX11 240 (1000000) ∈ lw_good := gm 1286 (by decide +kernel) rfl
theorem cX11_257 : Cond.constantLong RX11 257 (99) ∈ lw_good := gm 1319 (by decide +kernel) rfl
theorem cX11_270 : Cond.constantLong RX11 270 (100) ∈ lw_good := gm 1344 (by decide +kernel) rfl
theorem cX11_272 : Cond.constantLong RX11 272 (1000000000) ∈ lw_good := gm 1345 (by decide +kernel) rfl
theorem cX11_274 : Cond.constantLong RX11 274 (-1) ∈ lw_good := gm 1354 (by decide +kernel) rfl
theorem cX11_276 : Cond.constantLong RX11 276 (16) ∈ lw_good := gm 1355 (by decide +kernel) rfl
theorem cX11_281 : Cond.constantLong RX11 281 (6) ∈ lw_good := gm 1368 (by decide +kernel) rfl
theorem dfX0 : ∀ k, k < 7 → defaultValue (tyX0 k) = (match (tcl.getD 0 []).getD k 0 with | 0 => Value.int 0 | 1 => Value.long 0 | _ => Value.null) := by decide +kernel
theorem dfX1 : ∀ k, k < 3 → defaultValue (tyX1 k) = (match (tcl.getD 1 []).getD k 0 with | 0 => Value.int 0 | 1 => Value.long 0 | _ => Value.null) := by decide +kernel
theorem dfX2 : ∀ k, k < 3 → defaultValue (tyX2 k) = (match (tcl.getD 2 []).getD k 0 with | 0 => Value.int 0 | 1 => Value.long 0 | _ => Value.null) := by decide +kernel
theorem dfX3 : ∀ k, k < 3 → defaultValue (tyX3 k) = (match (tcl.getD 3 []).getD k 0 with | 0 => Value.int 0 | 1 => Value.long 0 | _ => Value.null) := by decide +kernel
theorem dfX4 : ∀ k, k < 4 → defaultValue (tyX4 k) = (match (tcl.getD 4 []).getD k 0 with | 0 => Value.int 0 | 1 => Value.long 0 | _ => Value.null) := by decide +kernel
theorem dfX5 : ∀ k, k < 3 → defaultValue (tyX5 k) = (match (tcl.getD 5 []).getD k 0 with | 0 => Value.int 0 | 1 => Value.long 0 | _ => Value.null) := by decide +kernel
theorem dfX6 : ∀ k, k < 4 → defaultValue (tyX6 k) = (match (tcl.getD 6 []).getD k 0 with | 0 => Value.int 0 | 1 => Value.long 0 | _ => Value.null) := by decide +kernel
theorem dfX7 : ∀ k, k < 6 → defaultValue (tyX7 k) = (match (tcl.getD 7 []).getD k 0 with | 0 => Value.int 0 | 1 => Value.long 0 | _ => Value.null) := by decide +kernel
theorem dfX8 : ∀ k, k < 6 → defaultValue (tyX8 k) = (match (tcl.getD 8 []).getD k 0 with | 0 => Value.int 0 | 1 => Value.long 0 | _ => Value.null) := by decide +kernel
theorem dfX9 : ∀ k, k < 10 → defaultValue (tyX9 k) = (match (tcl.getD 9 []).getD k 0 with | 0 => Value.int 0 | 1 => Value.long 0 | _ => Value.null) := by decide +kernel
theorem dfX10 : ∀ k, k < 14 → defaultValue (tyX10 k) = (match (tcl.getD 10 []).getD k 0 with | 0 => Value.int 0 | 1 => Value.long 0 | _ => Value.null) := by decide +kernel
theorem dfX11 : ∀ k, k < 36 → defaultValue (tyX11 k) = (match (tcl.getD 11 []).getD k 0 with | 0 => Value.int 0 | 1 => Value.long 0 | _ => Value.null) := by decide +kernel
theorem wMaxS : Cond.static Lib.Math.max.name ∈ lw_good := gm 262 (by decide +kernel) rfl
theorem wMinS : Cond.static Lib.Math.min.name ∈ lw_good := gm 678 (by decide +kernel) rfl
theorem wMathI : Cond.initialized "java/lang/Math" ∈ lw_good := gm 124 (by decide +kernel) rfl
theorem wSysI : Cond.initialized "java/lang/System" ∈ lw_good := gm 132 (by decide +kernel) rfl
theorem wCopN : Cond.native arraycopyName ∈ lw_good := gm 676 (by decide +kernel) rfl
theorem wCopS : Cond.static arraycopyName ∈ lw_good := gm 675 (by decide +kernel) rfl
theorem wMaxC : Cond.code Lib.Math.max.name Lib.Math.max.code 2 (some .int) ∈ lw_good := gm 263 (by decide +kernel) rfl
theorem wMinC : Cond.code Lib.Math.min.name Lib.Math.min.code 2 (some .int) ∈ lw_good := gm 679 (by decide +kernel) rfl
theorem wObjM : Cond.instanceMethod Lib.objectInit ∈ lw_good := gm 139 (by decide +kernel) rfl
theorem wObjC : Cond.code Lib.objectInit ⟨#[0xb1]⟩ 1 none ∈ lw_good := gm 140 (by decide +kernel) rfl
theorem wArrI : Cond.arrayClass .int ∈ lw_good := gm 168 (by decide +kernel) rfl
theorem wArrZ : Cond.arrayClass .boolean ∈ lw_good := gm 1115 (by decide +kernel) rfl
set_option maxRecDepth 20000 in
theorem wX0_init : Cond.code mX0_init.1 mX0_init.2.1 mX0_init.2.2.1 mX0_init.2.2.2 ∈ lw_good := gm 283 rfl rfl
set_option maxRecDepth 20000 in
theorem wX0_setUp : Cond.code mX0_setUp.1 mX0_setUp.2.1 mX0_setUp.2.2.1 mX0_setUp.2.2.2 ∈ lw_good := gm 751 rfl rfl
set_option maxRecDepth 20000 in
theorem wX0_hasRoad : Cond.code mX0_hasRoad.1 mX0_hasRoad.2.1 mX0_hasRoad.2.2.1 mX0_hasRoad.2.2.2 ∈ lw_good := gm 774 rfl rfl
set_option maxRecDepth 20000 in
theorem wX0_hasRoom : Cond.code mX0_hasRoom.1 mX0_hasRoom.2.1 mX0_hasRoom.2.2.1 mX0_hasRoom.2.2.2 ∈ lw_good := gm 770 rfl rfl
set_option maxRecDepth 20000 in
theorem wX0_countOf : Cond.code mX0_countOf.1 mX0_countOf.2.1 mX0_countOf.2.2.1 mX0_countOf.2.2.2 ∈ lw_good := gm 949 rfl rfl
set_option maxRecDepth 20000 in
theorem wX0_lastKind : Cond.code mX0_lastKind.1 mX0_lastKind.2.1 mX0_lastKind.2.2.1 mX0_lastKind.2.2.2 ∈ lw_good := gm 778 rfl rfl
set_option maxRecDepth 20000 in
theorem wX0_kindOf : Cond.code mX0_kindOf.1 mX0_kindOf.2.1 mX0_kindOf.2.2.1 mX0_kindOf.2.2.2 ∈ lw_good := gm 786 rfl rfl
set_option maxRecDepth 20000 in
theorem wX0_put : Cond.code mX0_put.1 mX0_put.2.1 mX0_put.2.2.1 mX0_put.2.2.2 ∈ lw_good := gm 782 rfl rfl
set_option maxRecDepth 20000 in
theorem wX0_takeBack : Cond.code mX0_takeBack.1 mX0_takeBack.2.1 mX0_takeBack.2.2.1 mX0_takeBack.2.2.2 ∈ lw_good := gm 791 rfl rfl
set_option maxRecDepth 20000 in
theorem wX1_init : Cond.code mX1_init.1 mX1_init.2.1 mX1_init.2.2.1 mX1_init.2.2.2 ∈ lw_good := gm 242 rfl rfl
set_option maxRecDepth 20000 in
theorem wX1_forget : Cond.code mX1_forget.1 mX1_forget.2.1 mX1_forget.2.2.1 mX1_forget.2.2.2 ∈ lw_good := gm 581 rfl rfl
set_option maxRecDepth 20000 in
theorem wX1_add : Cond.code mX1_add.1 mX1_add.2.1 mX1_add.2.2.1 mX1_add.2.2.2 ∈ lw_good := gm 852 rfl rfl
set_option maxRecDepth 20000 in
theorem wX1_leastLaw : Cond.code mX1_leastLaw.1 mX1_leastLaw.2.1 mX1_leastLaw.2.2.1 mX1_leastLaw.2.2.2 ∈ lw_good := gm 861 rfl rfl
set_option maxRecDepth 20000 in
theorem wX1_lawsOf : Cond.code mX1_lawsOf.1 mX1_lawsOf.2.1 mX1_lawsOf.2.2.1 mX1_lawsOf.2.2.2 ∈ lw_good := gm 873 rfl rfl
set_option maxRecDepth 20000 in
theorem wX1_firstUntried : Cond.code mX1_firstUntried.1 mX1_firstUntried.2.1 mX1_firstUntried.2.2.1 mX1_firstUntried.2.2.2 ∈ lw_good := gm 884 rfl rfl
set_option maxRecDepth 20000 in
theorem wX1_circusKicked : Cond.code mX1_circusKicked.1 mX1_circusKicked.2.1 mX1_circusKicked.2.2.1 mX1_circusKicked.2.2.2 ∈ lw_good := gm 865 rfl rfl
set_option maxRecDepth 20000 in
theorem wX1_pairsIn : Cond.code mX1_pairsIn.1 mX1_pairsIn.2.1 mX1_pairsIn.2.2.1 mX1_pairsIn.2.2.2 ∈ lw_good := gm 869 rfl rfl
set_option maxRecDepth 20000 in
theorem wX1_choose : Cond.code mX1_choose.1 mX1_choose.2.1 mX1_choose.2.2.1 mX1_choose.2.2.2 ∈ lw_good := gm 876 rfl rfl
set_option maxRecDepth 20000 in
theorem wX2_init : Cond.code mX2_init.1 mX2_init.2.1 mX2_init.2.2.1 mX2_init.2.2.2 ∈ lw_good := gm 338 rfl rfl
set_option maxRecDepth 20000 in
theorem wX2_search : Cond.code mX2_search.1 mX2_search.2.1 mX2_search.2.2.1 mX2_search.2.2.2 ∈ lw_good := gm 903 rfl rfl
set_option maxRecDepth 20000 in
theorem wX2_want : Cond.code mX2_want.1 mX2_want.2.1 mX2_want.2.2.1 mX2_want.2.2.2 ∈ lw_good := gm 924 rfl rfl
set_option maxRecDepth 20000 in
theorem wX2_isPlace : Cond.code mX2_isPlace.1 mX2_isPlace.2.1 mX2_isPlace.2.2.1 mX2_isPlace.2.2.2 ∈ lw_good := gm 927 rfl rfl
set_option maxRecDepth 20000 in
theorem wX2_wantedAt : Cond.code mX2_wantedAt.1 mX2_wantedAt.2.1 mX2_wantedAt.2.2.1 mX2_wantedAt.2.2.2 ∈ lw_good := gm 931 rfl rfl
set_option maxRecDepth 20000 in
theorem wX2_needsWagon : Cond.code mX2_needsWagon.1 mX2_needsWagon.2.1 mX2_needsWagon.2.2.1 mX2_needsWagon.2.2.2 ∈ lw_good := gm 935 rfl rfl
set_option maxRecDepth 20000 in
theorem wX2_rowsFrom : Cond.code mX2_rowsFrom.1 mX2_rowsFrom.2.1 mX2_rowsFrom.2.2.1 mX2_rowsFrom.2.2.2 ∈ lw_good := gm 941 rfl rfl
set_option maxRecDepth 20000 in
theorem wX2_countRows : Cond.code mX2_countRows.1 mX2_countRows.2.1 mX2_countRows.2.2.1 mX2_countRows.2.2.2 ∈ lw_good := gm 945 rfl rfl
set_option maxRecDepth 20000 in
theorem wX2_sureRoad : Cond.code mX2_sureRoad.1 mX2_sureRoad.2.1 mX2_sureRoad.2.2.1 mX2_sureRoad.2.2.2 ∈ lw_good := gm 958 rfl rfl
set_option maxRecDepth 20000 in
theorem wX3_init : Cond.code mX3_init.1 mX3_init.2.1 mX3_init.2.2.1 mX3_init.2.2.2 ∈ lw_good := gm 221 rfl rfl
set_option maxRecDepth 20000 in
theorem wX4_init : Cond.code mX4_init.1 mX4_init.2.1 mX4_init.2.2.1 mX4_init.2.2.2 ∈ lw_good := gm 259 rfl rfl
set_option maxRecDepth 20000 in
theorem wX4_add : Cond.code mX4_add.1 mX4_add.2.1 mX4_add.2.2.1 mX4_add.2.2.2 ∈ lw_good := gm 895 rfl rfl
set_option maxRecDepth 20000 in
theorem wX4_has : Cond.code mX4_has.1 mX4_has.2.1 mX4_has.2.2.1 mX4_has.2.2.2 ∈ lw_good := gm 912 rfl rfl
set_option maxRecDepth 20000 in
theorem wX4_roadOf : Cond.code mX4_roadOf.1 mX4_roadOf.2.1 mX4_roadOf.2.2.1 mX4_roadOf.2.2.2 ∈ lw_good := gm 908 rfl rfl
set_option maxRecDepth 20000 in
theorem wX4_placeOf : Cond.code mX4_placeOf.1 mX4_placeOf.2.1 mX4_placeOf.2.2.1 mX4_placeOf.2.2.2 ∈ lw_good := gm 916 rfl rfl
set_option maxRecDepth 20000 in
theorem wX4_whatOf : Cond.code mX4_whatOf.1 mX4_whatOf.2.1 mX4_whatOf.2.2.1 mX4_whatOf.2.2.2 ∈ lw_good := gm 920 rfl rfl
set_option maxRecDepth 20000 in
theorem wX5_init : Cond.code mX5_init.1 mX5_init.2.1 mX5_init.2.2.1 mX5_init.2.2.2 ∈ lw_good := gm 201 rfl rfl
set_option maxRecDepth 20000 in
theorem wX5_forget : Cond.code mX5_forget.1 mX5_forget.2.1 mX5_forget.2.2.1 mX5_forget.2.2.2 ∈ lw_good := gm 573 rfl rfl
set_option maxRecDepth 20000 in
theorem wX5_remember : Cond.code mX5_remember.1 mX5_remember.2.1 mX5_remember.2.2.1 mX5_remember.2.2.2 ∈ lw_good := gm 669 rfl rfl
set_option maxRecDepth 20000 in
theorem wX5_giveBack : Cond.code mX5_giveBack.1 mX5_giveBack.2.1 mX5_giveBack.2.2.1 mX5_giveBack.2.2.2 ∈ lw_good := gm 743 rfl rfl
set_option maxRecDepth 20000 in
theorem wX6_init : Cond.code mX6_init.1 mX6_init.2.1 mX6_init.2.2.1 mX6_init.2.2.2 ∈ lw_good := gm 317 rfl rfl
set_option maxRecDepth 20000 in
theorem wX6_search : Cond.code mX6_search.1 mX6_search.2.1 mX6_search.2.2.1 mX6_search.2.2.2 ∈ lw_good := gm 761 rfl rfl
set_option maxRecDepth 20000 in
theorem wX6_found : Cond.code mX6_found.1 mX6_found.2.1 mX6_found.2.2.1 mX6_found.2.2.2 ∈ lw_good := gm 795 rfl rfl
set_option maxRecDepth 20000 in
theorem wX6_roadOf : Cond.code mX6_roadOf.1 mX6_roadOf.2.1 mX6_roadOf.2.2.1 mX6_roadOf.2.2.2 ∈ lw_good := gm 799 rfl rfl
set_option maxRecDepth 20000 in
theorem wX6_extend : Cond.code mX6_extend.1 mX6_extend.2.1 mX6_extend.2.2.1 mX6_extend.2.2.2 ∈ lw_good := gm 765 rfl rfl
set_option maxRecDepth 20000 in
theorem wX7_init : Cond.code mX7_init.1 mX7_init.2.1 mX7_init.2.2.1 mX7_init.2.2.2 ∈ lw_good := gm 145 rfl rfl
set_option maxRecDepth 20000 in
theorem wX7_addLetter : Cond.code mX7_addLetter.1 mX7_addLetter.2.1 mX7_addLetter.2.2.1 mX7_addLetter.2.2.2 ∈ lw_good := gm 447 rfl rfl
set_option maxRecDepth 20000 in
theorem wX7_readInto : Cond.code mX7_readInto.1 mX7_readInto.2.1 mX7_readInto.2.2.1 mX7_readInto.2.2.2 ∈ lw_good := gm 456 rfl rfl
set_option maxRecDepth 20000 in
theorem wX7_readClause : Cond.code mX7_readClause.1 mX7_readClause.2.1 mX7_readClause.2.2.1 mX7_readClause.2.2.2 ∈ lw_good := gm 480 rfl rfl
set_option maxRecDepth 20000 in
theorem wX7_isWord : Cond.code mX7_isWord.1 mX7_isWord.2.1 mX7_isWord.2.2.1 mX7_isWord.2.2.2 ∈ lw_good := gm 483 rfl rfl
set_option maxRecDepth 20000 in
theorem wX7_readRoads : Cond.code mX7_readRoads.1 mX7_readRoads.2.1 mX7_readRoads.2.2.1 mX7_readRoads.2.2.2 ∈ lw_good := gm 501 rfl rfl
set_option maxRecDepth 20000 in
theorem wX7_readWagon : Cond.code mX7_readWagon.1 mX7_readWagon.2.1 mX7_readWagon.2.2.1 mX7_readWagon.2.2.2 ∈ lw_good := gm 524 rfl rfl
set_option maxRecDepth 20000 in
theorem wX7_readGrudge : Cond.code mX7_readGrudge.1 mX7_readGrudge.2.1 mX7_readGrudge.2.2.1 mX7_readGrudge.2.2.2 ∈ lw_good := gm 532 rfl rfl
set_option maxRecDepth 20000 in
theorem wX7_readTrain : Cond.code mX7_readTrain.1 mX7_readTrain.2.1 mX7_readTrain.2.2.1 mX7_readTrain.2.2.2 ∈ lw_good := gm 543 rfl rfl
set_option maxRecDepth 20000 in
theorem wX7_goesOn : Cond.code mX7_goesOn.1 mX7_goesOn.2.1 mX7_goesOn.2.2.1 mX7_goesOn.2.2.2 ∈ lw_good := gm 505 rfl rfl
set_option maxRecDepth 20000 in
theorem wX7_readNumber : Cond.code mX7_readNumber.1 mX7_readNumber.2.1 mX7_readNumber.2.2.1 mX7_readNumber.2.2.2 ∈ lw_good := gm 513 rfl rfl
set_option maxRecDepth 20000 in
theorem wX7_takes : Cond.code mX7_takes.1 mX7_takes.2.1 mX7_takes.2.2.1 mX7_takes.2.2.2 ∈ lw_good := gm 509 rfl rfl
set_option maxRecDepth 20000 in
theorem wX7_atEnd : Cond.code mX7_atEnd.1 mX7_atEnd.2.1 mX7_atEnd.2.2.1 mX7_atEnd.2.2.2 ∈ lw_good := gm 468 rfl rfl
set_option maxRecDepth 20000 in
theorem wX7_skipBlanks : Cond.code mX7_skipBlanks.1 mX7_skipBlanks.2.1 mX7_skipBlanks.2.2.1 mX7_skipBlanks.2.2.2 ∈ lw_good := gm 472 rfl rfl
set_option maxRecDepth 20000 in
theorem wX7_letter : Cond.code mX7_letter.1 mX7_letter.2.1 mX7_letter.2.2.1 mX7_letter.2.2.2 ∈ lw_good := gm 476 rfl rfl
set_option maxRecDepth 20000 in
theorem wX7_isFigure : Cond.code mX7_isFigure.1 mX7_isFigure.2.1 mX7_isFigure.2.2.1 mX7_isFigure.2.2.2 ∈ lw_good := gm 516 rfl rfl
set_option maxRecDepth 20000 in
theorem wX7_failed : Cond.code mX7_failed.1 mX7_failed.2.1 mX7_failed.2.2.1 mX7_failed.2.2.2 ∈ lw_good := gm 464 rfl rfl
set_option maxRecDepth 20000 in
theorem wX7_fail : Cond.code mX7_fail.1 mX7_fail.2.1 mX7_fail.2.2.1 mX7_fail.2.2.2 ∈ lw_good := gm 487 rfl rfl
set_option maxRecDepth 20000 in
theorem wX8_init : Cond.code mX8_init.1 mX8_init.2.1 mX8_init.2.2.1 mX8_init.2.2.2 ∈ lw_good := gm 173 rfl rfl
set_option maxRecDepth 20000 in
theorem wX8_begin : Cond.code mX8_begin.1 mX8_begin.2.1 mX8_begin.2.2.1 mX8_begin.2.2.2 ∈ lw_good := gm 555 rfl rfl
set_option maxRecDepth 20000 in
theorem wX8_become : Cond.code mX8_become.1 mX8_become.2.1 mX8_become.2.2.1 mX8_become.2.2.2 ∈ lw_good := gm 673 rfl rfl
set_option maxRecDepth 20000 in
theorem wX8_isLine : Cond.code mX8_isLine.1 mX8_isLine.2.1 mX8_isLine.2.2.1 mX8_isLine.2.2.2 ∈ lw_good := gm 569 rfl rfl
set_option maxRecDepth 20000 in
theorem wX8_countOf : Cond.code mX8_countOf.1 mX8_countOf.2.1 mX8_countOf.2.2.1 mX8_countOf.2.2.2 ∈ lw_good := gm 566 rfl rfl
set_option maxRecDepth 20000 in
theorem wX8_peaceOf : Cond.code mX8_peaceOf.1 mX8_peaceOf.2.1 mX8_peaceOf.2.2.1 mX8_peaceOf.2.2.2 ∈ lw_good := gm 637 rfl rfl
set_option maxRecDepth 20000 in
theorem wX8_wagonAt : Cond.code mX8_wagonAt.1 mX8_wagonAt.2.1 mX8_wagonAt.2.2.1 mX8_wagonAt.2.2.2 ∈ lw_good := gm 612 rfl rfl
set_option maxRecDepth 20000 in
theorem wX8_fromHead : Cond.code mX8_fromHead.1 mX8_fromHead.2.1 mX8_fromHead.2.2.1 mX8_fromHead.2.2.2 ∈ lw_good := gm 645 rfl rfl
set_option maxRecDepth 20000 in
theorem wX8_lastIn : Cond.code mX8_lastIn.1 mX8_lastIn.2.1 mX8_lastIn.2.2.1 mX8_lastIn.2.2.2 ∈ lw_good := gm 687 rfl rfl
set_option maxRecDepth 20000 in
theorem wX8_roadOf : Cond.code mX8_roadOf.1 mX8_roadOf.2.1 mX8_roadOf.2.2.1 mX8_roadOf.2.2.2 ∈ lw_good := gm 604 rfl rfl
set_option maxRecDepth 20000 in
theorem wX8_placeOf : Cond.code mX8_placeOf.1 mX8_placeOf.2.1 mX8_placeOf.2.2.1 mX8_placeOf.2.2.2 ∈ lw_good := gm 616 rfl rfl
set_option maxRecDepth 20000 in
theorem wX8_lineOf : Cond.code mX8_lineOf.1 mX8_lineOf.2.1 mX8_lineOf.2.2.1 mX8_lineOf.2.2.2 ∈ lw_good := gm 608 rfl rfl
set_option maxRecDepth 20000 in
theorem wX8_push : Cond.code mX8_push.1 mX8_push.2.1 mX8_push.2.2.1 mX8_push.2.2.2 ∈ lw_good := gm 562 rfl rfl
set_option maxRecDepth 20000 in
theorem wX8_letDown : Cond.code mX8_letDown.1 mX8_letDown.2.1 mX8_letDown.2.2.1 mX8_letDown.2.2.2 ∈ lw_good := gm 683 rfl rfl
set_option maxRecDepth 20000 in
theorem wX8_countKick : Cond.code mX8_countKick.1 mX8_countKick.2.1 mX8_countKick.2.2.1 mX8_countKick.2.2.2 ∈ lw_good := gm 691 rfl rfl
set_option maxRecDepth 20000 in
theorem wX8_pullUp : Cond.code mX8_pullUp.1 mX8_pullUp.2.1 mX8_pullUp.2.2.1 mX8_pullUp.2.2.2 ∈ lw_good := gm 701 rfl rfl
set_option maxRecDepth 20000 in
theorem wX8_hasPeace : Cond.code mX8_hasPeace.1 mX8_hasPeace.2.1 mX8_hasPeace.2.2.1 mX8_hasPeace.2.2.2 ∈ lw_good := gm 709 rfl rfl
set_option maxRecDepth 20000 in
theorem wX8_makePeace : Cond.code mX8_makePeace.1 mX8_makePeace.2.1 mX8_makePeace.2.2.1 mX8_makePeace.2.2.2 ∈ lw_good := gm 714 rfl rfl
set_option maxRecDepth 20000 in
theorem wX8_kicksBehind : Cond.code mX8_kicksBehind.1 mX8_kicksBehind.2.1 mX8_kicksBehind.2.2.1 mX8_kicksBehind.2.2.2 ∈ lw_good := gm 718 rfl rfl
set_option maxRecDepth 20000 in
theorem wX9_init : Cond.code mX9_init.1 mX9_init.2.1 mX9_init.2.2.1 mX9_init.2.2.2 ∈ lw_good := gm 354 rfl rfl
set_option maxRecDepth 20000 in
theorem wX9_clear : Cond.code mX9_clear.1 mX9_clear.2.1 mX9_clear.2.2.1 mX9_clear.2.2.2 ∈ lw_good := gm 460 rfl rfl
set_option maxRecDepth 20000 in
theorem wX9_isFullOf : Cond.code mX9_isFullOf.1 mX9_isFullOf.2.1 mX9_isFullOf.2.2.1 mX9_isFullOf.2.2.2 ∈ lw_good := gm 491 rfl rfl
set_option maxRecDepth 20000 in
theorem wX9_addRoad : Cond.code mX9_addRoad.1 mX9_addRoad.2.1 mX9_addRoad.2.2.1 mX9_addRoad.2.2.2 ∈ lw_good := gm 520 rfl rfl
set_option maxRecDepth 20000 in
theorem wX9_addWagon : Cond.code mX9_addWagon.1 mX9_addWagon.2.1 mX9_addWagon.2.2.1 mX9_addWagon.2.2.2 ∈ lw_good := gm 528 rfl rfl
set_option maxRecDepth 20000 in
theorem wX9_addGrudge : Cond.code mX9_addGrudge.1 mX9_addGrudge.2.1 mX9_addGrudge.2.2.1 mX9_addGrudge.2.2.2 ∈ lw_good := gm 536 rfl rfl
set_option maxRecDepth 20000 in
theorem wX9_addToTrain : Cond.code mX9_addToTrain.1 mX9_addToTrain.2.1 mX9_addToTrain.2.2.1 mX9_addToTrain.2.2.2 ∈ lw_good := gm 547 rfl rfl
set_option maxRecDepth 20000 in
theorem wX9_hasRoad : Cond.code mX9_hasRoad.1 mX9_hasRoad.2.1 mX9_hasRoad.2.2.1 mX9_hasRoad.2.2.2 ∈ lw_good := gm 628 rfl rfl
set_option maxRecDepth 20000 in
theorem wX9_hasWagon : Cond.code mX9_hasWagon.1 mX9_hasWagon.2.1 mX9_hasWagon.2.2.1 mX9_hasWagon.2.2.2 ∈ lw_good := gm 551 rfl rfl
set_option maxRecDepth 20000 in
theorem wX9_roomOf : Cond.code mX9_roomOf.1 mX9_roomOf.2.1 mX9_roomOf.2.2.1 mX9_roomOf.2.2.2 ∈ lw_good := gm 632 rfl rfl
set_option maxRecDepth 20000 in
theorem wX9_kindOf : Cond.code mX9_kindOf.1 mX9_kindOf.2.1 mX9_kindOf.2.2.1 mX9_kindOf.2.2.2 ∈ lw_good := gm 600 rfl rfl
set_option maxRecDepth 20000 in
theorem wX9_kindsKick : Cond.code mX9_kindsKick.1 mX9_kindsKick.2.1 mX9_kindsKick.2.2.1 mX9_kindsKick.2.2.2 ∈ lw_good := gm 657 rfl rfl
set_option maxRecDepth 20000 in
theorem wX9_kickBy : Cond.code mX9_kickBy.1 mX9_kickBy.2.1 mX9_kickBy.2.2.1 mX9_kickBy.2.2.2 ∈ lw_good := gm 660 rfl rfl
set_option maxRecDepth 20000 in
theorem wX9_speedOf : Cond.code mX9_speedOf.1 mX9_speedOf.2.1 mX9_speedOf.2.2.1 mX9_speedOf.2.2.2 ∈ lw_good := gm 620 rfl rfl
set_option maxRecDepth 20000 in
theorem wX9_timeOf : Cond.code mX9_timeOf.1 mX9_timeOf.2.1 mX9_timeOf.2.2.1 mX9_timeOf.2.2.2 ∈ lw_good := gm 820 rfl rfl
set_option maxRecDepth 20000 in
theorem wX9_sortingRoad : Cond.code mX9_sortingRoad.1 mX9_sortingRoad.2.1 mX9_sortingRoad.2.2.1 mX9_sortingRoad.2.2.2 ∈ lw_good := gm 807 rfl rfl
set_option maxRecDepth 20000 in
theorem wX9_firstRoadFor : Cond.code mX9_firstRoadFor.1 mX9_firstRoadFor.2.1 mX9_firstRoadFor.2.2.1 mX9_firstRoadFor.2.2.2 ∈ lw_good := gm 811 rfl rfl
set_option maxRecDepth 20000 in
theorem wX9_pairBit : Cond.code mX9_pairBit.1 mX9_pairBit.2.1 mX9_pairBit.2.2.1 mX9_pairBit.2.2.2 ∈ lw_good := gm 539 rfl rfl
set_option maxRecDepth 20000 in
theorem wX10_init : Cond.code mX10_init.1 mX10_init.2.1 mX10_init.2.2.1 mX10_init.2.2.2 ∈ lw_good := gm 137 rfl rfl
set_option maxRecDepth 20000 in
theorem wX10_feed : Cond.code mX10_feed.1 mX10_feed.2.1 mX10_feed.2.2.1 mX10_feed.2.2.2 ∈ lw_good := gm 442 rfl rfl
set_option maxRecDepth 20000 in
theorem wX10_yard : Cond.code mX10_yard.1 mX10_yard.2.1 mX10_yard.2.2.1 mX10_yard.2.2.2 ∈ lw_good := gm 452 rfl rfl
set_option maxRecDepth 20000 in
theorem wX10_fault : Cond.code mX10_fault.1 mX10_fault.2.1 mX10_fault.2.2.1 mX10_fault.2.2.2 ∈ lw_good := gm 585 rfl rfl
set_option maxRecDepth 20000 in
theorem wX10_told : Cond.code mX10_told.1 mX10_told.2.1 mX10_told.2.2.1 mX10_told.2.2.2 ∈ lw_good := gm 589 rfl rfl
set_option maxRecDepth 20000 in
theorem wX10_wagon : Cond.code mX10_wagon.1 mX10_wagon.2.1 mX10_wagon.2.2.1 mX10_wagon.2.2.2 ∈ lw_good := gm 594 rfl rfl
set_option maxRecDepth 20000 in
theorem wX10_road : Cond.code mX10_road.1 mX10_road.2.1 mX10_road.2.2.1 mX10_road.2.2.2 ∈ lw_good := gm 624 rfl rfl
set_option maxRecDepth 20000 in
theorem wX10_at : Cond.code mX10_at.1 mX10_at.2.1 mX10_at.2.2.1 mX10_at.2.2.2 ∈ lw_good := gm 641 rfl rfl
set_option maxRecDepth 20000 in
theorem wX10_enemies : Cond.code mX10_enemies.1 mX10_enemies.2.1 mX10_enemies.2.2.1 mX10_enemies.2.2.2 ∈ lw_good := gm 650 rfl rfl
set_option maxRecDepth 20000 in
theorem wX10_cut : Cond.code mX10_cut.1 mX10_cut.2.1 mX10_cut.2.2.1 mX10_cut.2.2.2 ∈ lw_good := gm 664 rfl rfl
set_option maxRecDepth 20000 in
theorem wX10_pull : Cond.code mX10_pull.1 mX10_pull.2.1 mX10_pull.2.2.1 mX10_pull.2.2.2 ∈ lw_good := gm 697 rfl rfl
set_option maxRecDepth 20000 in
theorem wX10_peace : Cond.code mX10_peace.1 mX10_peace.2.1 mX10_peace.2.2.1 mX10_peace.2.2.2 ∈ lw_good := gm 705 rfl rfl
set_option maxRecDepth 20000 in
theorem wX10_drift : Cond.code mX10_drift.1 mX10_drift.2.1 mX10_drift.2.2.1 mX10_drift.2.2.2 ∈ lw_good := gm 722 rfl rfl
set_option maxRecDepth 20000 in
theorem wX10_driftOnce : Cond.code mX10_driftOnce.1 mX10_driftOnce.2.1 mX10_driftOnce.2.2.1 mX10_driftOnce.2.2.2 ∈ lw_good := gm 735 rfl rfl
set_option maxRecDepth 20000 in
theorem wX10_undo : Cond.code mX10_undo.1 mX10_undo.2.1 mX10_undo.2.2.1 mX10_undo.2.2.2 ∈ lw_good := gm 739 rfl rfl
set_option maxRecDepth 20000 in
theorem wX10_plan : Cond.code mX10_plan.1 mX10_plan.2.1 mX10_plan.2.2.1 mX10_plan.2.2.2 ∈ lw_good := gm 747 rfl rfl
set_option maxRecDepth 20000 in
theorem wX10_leastRoads : Cond.code mX10_leastRoads.1 mX10_leastRoads.2.1 mX10_leastRoads.2.2.1 mX10_leastRoads.2.2.2 ∈ lw_good := gm 803 rfl rfl
set_option maxRecDepth 20000 in
theorem wX10_safe : Cond.code mX10_safe.1 mX10_safe.2.1 mX10_safe.2.2.1 mX10_safe.2.2.2 ∈ lw_good := gm 816 rfl rfl
set_option maxRecDepth 20000 in
theorem wX10_foremen : Cond.code mX10_foremen.1 mX10_foremen.2.1 mX10_foremen.2.2.1 mX10_foremen.2.2.2 ∈ lw_good := gm 826 rfl rfl
set_option maxRecDepth 20000 in
theorem wX10_foremenKicks : Cond.code mX10_foremenKicks.1 mX10_foremenKicks.2.1 mX10_foremenKicks.2.2.1 mX10_foremenKicks.2.2.2 ∈ lw_good := gm 830 rfl rfl
set_option maxRecDepth 20000 in
theorem wX10_fewest : Cond.code mX10_fewest.1 mX10_fewest.2.1 mX10_fewest.2.2.1 mX10_fewest.2.2.2 ∈ lw_good := gm 838 rfl rfl
set_option maxRecDepth 20000 in
theorem wX10_rusted : Cond.code mX10_rusted.1 mX10_rusted.2.1 mX10_rusted.2.2.1 mX10_rusted.2.2.2 ∈ lw_good := gm 842 rfl rfl
set_option maxRecDepth 20000 in
theorem wX10_couple : Cond.code mX10_couple.1 mX10_couple.2.1 mX10_couple.2.2.1 mX10_couple.2.2.2 ∈ lw_good := gm 848 rfl rfl
set_option maxRecDepth 20000 in
theorem wX10_laws : Cond.code mX10_laws.1 mX10_laws.2.1 mX10_laws.2.2.1 mX10_laws.2.2.2 ∈ lw_good := gm 857 rfl rfl
set_option maxRecDepth 20000 in
theorem wX10_next : Cond.code mX10_next.1 mX10_next.2.1 mX10_next.2.2.1 mX10_next.2.2.2 ∈ lw_good := gm 880 rfl rfl
set_option maxRecDepth 20000 in
theorem wX10_chalk : Cond.code mX10_chalk.1 mX10_chalk.2.1 mX10_chalk.2.2.1 mX10_chalk.2.2.2 ∈ lw_good := gm 888 rfl rfl
set_option maxRecDepth 20000 in
theorem wX10_fit : Cond.code mX10_fit.1 mX10_fit.2.1 mX10_fit.2.2.1 mX10_fit.2.2.2 ∈ lw_good := gm 899 rfl rfl
set_option maxRecDepth 20000 in
theorem wX10_write : Cond.code mX10_write.1 mX10_write.2.1 mX10_write.2.2.1 mX10_write.2.2.2 ∈ lw_good := gm 967 rfl rfl
set_option maxRecDepth 20000 in
theorem wX10_addNote : Cond.code mX10_addNote.1 mX10_addNote.2.1 mX10_addNote.2.2.1 mX10_addNote.2.2.2 ∈ lw_good := gm 891 rfl rfl
set_option maxRecDepth 20000 in
theorem wX10_tear : Cond.code mX10_tear.1 mX10_tear.2.1 mX10_tear.2.2.1 mX10_tear.2.2.2 ∈ lw_good := gm 971 rfl rfl
set_option maxRecDepth 20000 in
theorem wX10_tearAll : Cond.code mX10_tearAll.1 mX10_tearAll.2.1 mX10_tearAll.2.2.1 mX10_tearAll.2.2.2 ∈ lw_good := gm 577 rfl rfl
set_option maxRecDepth 20000 in
theorem wX10_judge : Cond.code mX10_judge.1 mX10_judge.2.1 mX10_judge.2.2.1 mX10_judge.2.2.2 ∈ lw_good := gm 975 rfl rfl
set_option maxRecDepth 20000 in
theorem wX10_seed : Cond.code mX10_seed.1 mX10_seed.2.1 mX10_seed.2.2.1 mX10_seed.2.2.2 ∈ lw_good := gm 982 rfl rfl
set_option maxRecDepth 20000 in
theorem wX10_draw : Cond.code mX10_draw.1 mX10_draw.2.1 mX10_draw.2.2.1 mX10_draw.2.2.2 ∈ lw_good := gm 727 rfl rfl
set_option maxRecDepth 20000 in
theorem wX10_keep : Cond.code mX10_keep.1 mX10_keep.2.1 mX10_keep.2.2.1 mX10_keep.2.2.2 ∈ lw_good := gm 986 rfl rfl
set_option maxRecDepth 20000 in
theorem wX10_goBack : Cond.code mX10_goBack.1 mX10_goBack.2.1 mX10_goBack.2.2.1 mX10_goBack.2.2.2 ∈ lw_good := gm 995 rfl rfl
set_option maxRecDepth 20000 in
theorem wX10_imageOf : Cond.code mX10_imageOf.1 mX10_imageOf.2.1 mX10_imageOf.2.2.1 mX10_imageOf.2.2.2 ∈ lw_good := gm 990 rfl rfl
set_option maxRecDepth 20000 in
theorem wX10_isKind : Cond.code mX10_isKind.1 mX10_isKind.2.1 mX10_isKind.2.2.1 mX10_isKind.2.2.2 ∈ lw_good := gm 653 rfl rfl
set_option maxRecDepth 20000 in
theorem wX11_init : Cond.code mX11_init.1 mX11_init.2.1 mX11_init.2.2.1 mX11_init.2.2.2 ∈ lw_good := gm 1000 rfl rfl
set_option maxRecDepth 20000 in
theorem wX11_in : Cond.code mX11_in.1 mX11_in.2.1 mX11_in.2.2.1 mX11_in.2.2.2 ∈ lw_good := gm 1123 rfl rfl
set_option maxRecDepth 20000 in
theorem wX11_has : Cond.code mX11_has.1 mX11_has.2.1 mX11_has.2.2.1 mX11_has.2.2.2 ∈ lw_good := gm 1170 rfl rfl
set_option maxRecDepth 20000 in
theorem wX11_begins : Cond.code mX11_begins.1 mX11_begins.2.1 mX11_begins.2.2.1 mX11_begins.2.2.2 ∈ lw_good := gm 1005 rfl rfl
set_option maxRecDepth 20000 in
theorem wX11_feed : Cond.code mX11_feed.1 mX11_feed.2.1 mX11_feed.2.2.1 mX11_feed.2.2.2 ∈ lw_good := gm 1119 rfl rfl
set_option maxRecDepth 20000 in
theorem wX11_here : Cond.code mX11_here.1 mX11_here.2.1 mX11_here.2.2.1 mX11_here.2.2.2 ∈ lw_good := gm 1137 rfl rfl
set_option maxRecDepth 20000 in
theorem wX11_step : Cond.code mX11_step.1 mX11_step.2.1 mX11_step.2.2.1 mX11_step.2.2.2 ∈ lw_good := gm 1133 rfl rfl
set_option maxRecDepth 20000 in
theorem wX11_fails : Cond.code mX11_fails.1 mX11_fails.2.1 mX11_fails.2.2.1 mX11_fails.2.2.2 ∈ lw_good := gm 1151 rfl rfl
set_option maxRecDepth 20000 in
theorem wX11_number : Cond.code mX11_number.1 mX11_number.2.1 mX11_number.2.2.1 mX11_number.2.2.2 ∈ lw_good := gm 1155 rfl rfl
set_option maxRecDepth 20000 in
theorem wX11_ends : Cond.code mX11_ends.1 mX11_ends.2.1 mX11_ends.2.2.1 mX11_ends.2.2.2 ∈ lw_good := gm 1163 rfl rfl
set_option maxRecDepth 20000 in
theorem wX11_readsRoads : Cond.code mX11_readsRoads.1 mX11_readsRoads.2.1 mX11_readsRoads.2.2.1 mX11_readsRoads.2.2.2 ∈ lw_good := gm 1147 rfl rfl
set_option maxRecDepth 20000 in
theorem wX11_readsWagon : Cond.code mX11_readsWagon.1 mX11_readsWagon.2.1 mX11_readsWagon.2.2.1 mX11_readsWagon.2.2.2 ∈ lw_good := gm 1159 rfl rfl
set_option maxRecDepth 20000 in
theorem wX11_readsEnemies : Cond.code mX11_readsEnemies.1 mX11_readsEnemies.2.1 mX11_readsEnemies.2.2.1 mX11_readsEnemies.2.2.2 ∈ lw_good := gm 1167 rfl rfl
set_option maxRecDepth 20000 in
theorem wX11_readsTrain : Cond.code mX11_readsTrain.1 mX11_readsTrain.2.1 mX11_readsTrain.2.2.1 mX11_readsTrain.2.2.2 ∈ lw_good := gm 1174 rfl rfl
set_option maxRecDepth 20000 in
theorem wX11_readsClause : Cond.code mX11_readsClause.1 mX11_readsClause.2.1 mX11_readsClause.2.2.1 mX11_readsClause.2.2.2 ∈ lw_good := gm 1143 rfl rfl
set_option maxRecDepth 20000 in
theorem wX11_yard : Cond.code mX11_yard.1 mX11_yard.2.1 mX11_yard.2.2.1 mX11_yard.2.2.2 ∈ lw_good := gm 1129 rfl rfl
set_option maxRecDepth 20000 in
theorem wX11_fault : Cond.code mX11_fault.1 mX11_fault.2.1 mX11_fault.2.2.1 mX11_fault.2.2.2 ∈ lw_good := gm 1178 rfl rfl
set_option maxRecDepth 20000 in
theorem wX11_isWagon : Cond.code mX11_isWagon.1 mX11_isWagon.2.1 mX11_isWagon.2.2.1 mX11_isWagon.2.2.2 ∈ lw_good := gm 1190 rfl rfl
set_option maxRecDepth 20000 in
theorem wX11_isRoad : Cond.code mX11_isRoad.1 mX11_isRoad.2.1 mX11_isRoad.2.2.1 mX11_isRoad.2.2.2 ∈ lw_good := gm 1210 rfl rfl
set_option maxRecDepth 20000 in
theorem wX11_isKind : Cond.code mX11_isKind.1 mX11_isKind.2.1 mX11_isKind.2.2.1 mX11_isKind.2.2.2 ∈ lw_good := gm 1221 rfl rfl
set_option maxRecDepth 20000 in
theorem wX11_told : Cond.code mX11_told.1 mX11_told.2.1 mX11_told.2.2.1 mX11_told.2.2.2 ∈ lw_good := gm 1182 rfl rfl
set_option maxRecDepth 20000 in
theorem wX11_placeOf : Cond.code mX11_placeOf.1 mX11_placeOf.2.1 mX11_placeOf.2.2.1 mX11_placeOf.2.2.2 ∈ lw_good := gm 1198 rfl rfl
set_option maxRecDepth 20000 in
theorem wX11_roadOf : Cond.code mX11_roadOf.1 mX11_roadOf.2.1 mX11_roadOf.2.2.1 mX11_roadOf.2.2.2 ∈ lw_good := gm 1195 rfl rfl
set_option maxRecDepth 20000 in
theorem wX11_speed : Cond.code mX11_speed.1 mX11_speed.2.1 mX11_speed.2.2.1 mX11_speed.2.2.2 ∈ lw_good := gm 1202 rfl rfl
set_option maxRecDepth 20000 in
theorem wX11_wagon : Cond.code mX11_wagon.1 mX11_wagon.2.1 mX11_wagon.2.2.1 mX11_wagon.2.2.2 ∈ lw_good := gm 1186 rfl rfl
set_option maxRecDepth 20000 in
theorem wX11_road : Cond.code mX11_road.1 mX11_road.2.1 mX11_road.2.2.1 mX11_road.2.2.2 ∈ lw_good := gm 1206 rfl rfl
set_option maxRecDepth 20000 in
theorem wX11_at : Cond.code mX11_at.1 mX11_at.2.1 mX11_at.2.2.1 mX11_at.2.2.2 ∈ lw_good := gm 1214 rfl rfl
set_option maxRecDepth 20000 in
theorem wX11_areEnemies : Cond.code mX11_areEnemies.1 mX11_areEnemies.2.1 mX11_areEnemies.2.2.1 mX11_areEnemies.2.2.2 ∈ lw_good := gm 1226 rfl rfl
set_option maxRecDepth 20000 in
theorem wX11_enemies : Cond.code mX11_enemies.1 mX11_enemies.2.1 mX11_enemies.2.2.1 mX11_enemies.2.2.2 ∈ lw_good := gm 1218 rfl rfl
set_option maxRecDepth 20000 in
theorem wX11_kick : Cond.code mX11_kick.1 mX11_kick.2.1 mX11_kick.2.2.1 mX11_kick.2.2.2 ∈ lw_good := gm 1251 rfl rfl
set_option maxRecDepth 20000 in
theorem wX11_copies : Cond.code mX11_copies.1 mX11_copies.2.1 mX11_copies.2.2.1 mX11_copies.2.2.2 ∈ lw_good := gm 1243 rfl rfl
set_option maxRecDepth 20000 in
theorem wX11_remember : Cond.code mX11_remember.1 mX11_remember.2.1 mX11_remember.2.2.1 mX11_remember.2.2.2 ∈ lw_good := gm 1240 rfl rfl
set_option maxRecDepth 20000 in
theorem wX11_mayCut : Cond.code mX11_mayCut.1 mX11_mayCut.2.1 mX11_mayCut.2.2.1 mX11_mayCut.2.2.2 ∈ lw_good := gm 1235 rfl rfl
set_option maxRecDepth 20000 in
theorem wX11_cuts : Cond.code mX11_cuts.1 mX11_cuts.2.1 mX11_cuts.2.2.1 mX11_cuts.2.2.2 ∈ lw_good := gm 1247 rfl rfl
set_option maxRecDepth 20000 in
theorem wX11_cut : Cond.code mX11_cut.1 mX11_cut.2.1 mX11_cut.2.2.1 mX11_cut.2.2.2 ∈ lw_good := gm 1230 rfl rfl
set_option maxRecDepth 20000 in
theorem wX11_pulls : Cond.code mX11_pulls.1 mX11_pulls.2.1 mX11_pulls.2.2.1 mX11_pulls.2.2.2 ∈ lw_good := gm 1259 rfl rfl
set_option maxRecDepth 20000 in
theorem wX11_pull : Cond.code mX11_pull.1 mX11_pull.2.1 mX11_pull.2.2.1 mX11_pull.2.2.2 ∈ lw_good := gm 1255 rfl rfl
set_option maxRecDepth 20000 in
theorem wX11_peace : Cond.code mX11_peace.1 mX11_peace.2.1 mX11_peace.2.2.1 mX11_peace.2.2.2 ∈ lw_good := gm 1263 rfl rfl
set_option maxRecDepth 20000 in
theorem wX11_draw : Cond.code mX11_draw.1 mX11_draw.2.1 mX11_draw.2.2.1 mX11_draw.2.2.2 ∈ lw_good := gm 1273 rfl rfl
set_option maxRecDepth 20000 in
theorem wX11_drift : Cond.code mX11_drift.1 mX11_drift.2.1 mX11_drift.2.2.1 mX11_drift.2.2.2 ∈ lw_good := gm 1267 rfl rfl
set_option maxRecDepth 20000 in
theorem wX11_undo : Cond.code mX11_undo.1 mX11_undo.2.1 mX11_undo.2.2.1 mX11_undo.2.2.2 ∈ lw_good := gm 1281 rfl rfl
set_option maxRecDepth 20000 in
theorem wX11_codes : Cond.code mX11_codes.1 mX11_codes.2.1 mX11_codes.2.2.1 mX11_codes.2.2.2 ∈ lw_good := gm 1290 rfl rfl
set_option maxRecDepth 20000 in
theorem wX11_layRow : Cond.code mX11_layRow.1 mX11_layRow.2.1 mX11_layRow.2.2.1 mX11_layRow.2.2.2 ∈ lw_good := gm 1294 rfl rfl
set_option maxRecDepth 20000 in
theorem wX11_layRoads : Cond.code mX11_layRoads.1 mX11_layRoads.2.1 mX11_layRoads.2.2.1 mX11_layRoads.2.2.2 ∈ lw_good := gm 1302 rfl rfl
set_option maxRecDepth 20000 in
theorem wX11_costs : Cond.code mX11_costs.1 mX11_costs.2.1 mX11_costs.2.2.1 mX11_costs.2.2.2 ∈ lw_good := gm 1298 rfl rfl
set_option maxRecDepth 20000 in
theorem wX11_plan : Cond.code mX11_plan.1 mX11_plan.2.1 mX11_plan.2.2.1 mX11_plan.2.2.2 ∈ lw_good := gm 1285 rfl rfl
set_option maxRecDepth 20000 in
theorem wX11_layTrain : Cond.code mX11_layTrain.1 mX11_layTrain.2.1 mX11_layTrain.2.2.1 mX11_layTrain.2.2.2 ∈ lw_good := gm 1310 rfl rfl
set_option maxRecDepth 20000 in
theorem wX11_draws : Cond.code mX11_draws.1 mX11_draws.2.1 mX11_draws.2.2.1 mX11_draws.2.2.2 ∈ lw_good := gm 1314 rfl rfl
set_option maxRecDepth 20000 in
theorem wX11_leastRoads : Cond.code mX11_leastRoads.1 mX11_leastRoads.2.1 mX11_leastRoads.2.2.1 mX11_leastRoads.2.2.2 ∈ lw_good := gm 1306 rfl rfl
set_option maxRecDepth 20000 in
theorem wX11_safe : Cond.code mX11_safe.1 mX11_safe.2.1 mX11_safe.2.2.1 mX11_safe.2.2.2 ∈ lw_good := gm 1318 rfl rfl
set_option maxRecDepth 20000 in
theorem wX11_beginsStep : Cond.code mX11_beginsStep.1 mX11_beginsStep.2.1 mX11_beginsStep.2.2.1 mX11_beginsStep.2.2.2 ∈ lw_good := gm 1327 rfl rfl
set_option maxRecDepth 20000 in
theorem wX11_weighs : Cond.code mX11_weighs.1 mX11_weighs.2.1 mX11_weighs.2.2.1 mX11_weighs.2.2.2 ∈ lw_good := gm 1331 rfl rfl
set_option maxRecDepth 20000 in
theorem wX11_goes : Cond.code mX11_goes.1 mX11_goes.2.1 mX11_goes.2.2.1 mX11_goes.2.2.2 ∈ lw_good := gm 1335 rfl rfl
set_option maxRecDepth 20000 in
theorem wX11_foremen : Cond.code mX11_foremen.1 mX11_foremen.2.1 mX11_foremen.2.2.1 mX11_foremen.2.2.2 ∈ lw_good := gm 1323 rfl rfl
set_option maxRecDepth 20000 in
theorem wX11_fewest : Cond.code mX11_fewest.1 mX11_fewest.2.1 mX11_fewest.2.2.1 mX11_fewest.2.2.2 ∈ lw_good := gm 1339 rfl rfl
set_option maxRecDepth 20000 in
theorem wX11_rusted : Cond.code mX11_rusted.1 mX11_rusted.2.1 mX11_rusted.2.2.1 mX11_rusted.2.2.2 ∈ lw_good := gm 1343 rfl rfl
set_option maxRecDepth 20000 in
theorem wX11_couple : Cond.code mX11_couple.1 mX11_couple.2.1 mX11_couple.2.2.1 mX11_couple.2.2.2 ∈ lw_good := gm 1349 rfl rfl
set_option maxRecDepth 20000 in
theorem wX11_triedOf : Cond.code mX11_triedOf.1 mX11_triedOf.2.1 mX11_triedOf.2.2.1 mX11_triedOf.2.2.2 ∈ lw_good := gm 1359 rfl rfl
set_option maxRecDepth 20000 in
theorem wX11_laws : Cond.code mX11_laws.1 mX11_laws.2.1 mX11_laws.2.2.1 mX11_laws.2.2.2 ∈ lw_good := gm 1353 rfl rfl
set_option maxRecDepth 20000 in
theorem wX11_next : Cond.code mX11_next.1 mX11_next.2.1 mX11_next.2.2.1 mX11_next.2.2.2 ∈ lw_good := gm 1363 rfl rfl
set_option maxRecDepth 20000 in
theorem wX11_chalk : Cond.code mX11_chalk.1 mX11_chalk.2.1 mX11_chalk.2.2.1 mX11_chalk.2.2.2 ∈ lw_good := gm 1367 rfl rfl
set_option maxRecDepth 20000 in
theorem wX11_fits : Cond.code mX11_fits.1 mX11_fits.2.1 mX11_fits.2.2.1 mX11_fits.2.2.2 ∈ lw_good := gm 1376 rfl rfl
set_option maxRecDepth 20000 in
theorem wX11_fit : Cond.code mX11_fit.1 mX11_fit.2.1 mX11_fit.2.2.1 mX11_fit.2.2.2 ∈ lw_good := gm 1372 rfl rfl
set_option maxRecDepth 20000 in
theorem wX11_write : Cond.code mX11_write.1 mX11_write.2.1 mX11_write.2.2.1 mX11_write.2.2.2 ∈ lw_good := gm 1380 rfl rfl
set_option maxRecDepth 20000 in
theorem wX11_tear : Cond.code mX11_tear.1 mX11_tear.2.1 mX11_tear.2.2.1 mX11_tear.2.2.2 ∈ lw_good := gm 1384 rfl rfl
set_option maxRecDepth 20000 in
theorem wX11_judge : Cond.code mX11_judge.1 mX11_judge.2.1 mX11_judge.2.2.1 mX11_judge.2.2.2 ∈ lw_good := gm 1388 rfl rfl
set_option maxRecDepth 20000 in
theorem wX11_seed : Cond.code mX11_seed.1 mX11_seed.2.1 mX11_seed.2.2.1 mX11_seed.2.2.2 ∈ lw_good := gm 1393 rfl rfl
set_option maxRecDepth 20000 in
theorem wX11_keep : Cond.code mX11_keep.1 mX11_keep.2.1 mX11_keep.2.2.1 mX11_keep.2.2.2 ∈ lw_good := gm 1397 rfl rfl
set_option maxRecDepth 20000 in
theorem wX11_goBack : Cond.code mX11_goBack.1 mX11_goBack.2.1 mX11_goBack.2.2.1 mX11_goBack.2.2.2 ∈ lw_good := gm 1401 rfl rfl
set_option maxRecDepth 20000 in
theorem wJ6_numberOfTrailingZeros_0f7a4 : Cond.code mJ6_numberOfTrailingZeros_0f7a4.1 mJ6_numberOfTrailingZeros_0f7a4.2.1 mJ6_numberOfTrailingZeros_0f7a4.2.2.1 mJ6_numberOfTrailingZeros_0f7a4.2.2.2 ∈ lw_good := gm 962 rfl rfl
set_option maxRecDepth 20000 in
theorem wJ6_bitCount_0f7a4 : Cond.code mJ6_bitCount_0f7a4.1 mJ6_bitCount_0f7a4.2.1 mJ6_bitCount_0f7a4.2.2.1 mJ6_bitCount_0f7a4.2.2.2 ∈ lw_good := gm 494 rfl rfl
set_option maxRecDepth 20000 in
theorem wJ7_fill_53178 : Cond.code mJ7_fill_53178.1 mJ7_fill_53178.2.1 mJ7_fill_53178.2.2.1 mJ7_fill_53178.2.2.2 ∈ lw_good := gm 558 rfl rfl
theorem clL_7 : Cond.classLink RL 7 "GrudgeYard" ∈ lw_good := gm 133 (by decide +kernel) rfl
theorem nL_7 : zCl RL 7 10 := ⟨RX10, TX10, 14, tyX10, rfl, rfl, inX10g, tyX10_ok, dfX10, clL_7, gm 134 (by decide +kernel) rfl, gm 117 (by decide +kernel) rfl⟩
theorem kL_9 : zMl RL 9 mX10_init 0 2 := ⟨wX10_init, gm 117 (by decide +kernel) rfl, ⟨by decide +kernel, by decide +kernel⟩, by decide +kernel, Or.inl (gm 135 (by decide +kernel) rfl), ⟨gm 136 (by decide +kernel) rfl, rfl, rfl⟩⟩
theorem kX10_1 : Cond.methodLink RX10 1 Lib.objectInit ∈ lw_good := gm 138 (by decide +kernel) rfl
theorem clX10_7 : Cond.classLink RX10 7 "GrudgeYard$Reader" ∈ lw_good := gm 141 (by decide +kernel) rfl
theorem nX10_7 : zCl RX10 7 7 := ⟨RX7, TX7, 6, tyX7, rfl, rfl, inX7g, tyX7_ok, dfX7, clX10_7, gm 142 (by decide +kernel) rfl, gm 118 (by decide +kernel) rfl⟩
theorem kX10_9 : zMl RX10 9 mX7_init 0 2 := ⟨wX7_init, gm 118 (by decide +kernel) rfl, ⟨by decide +kernel, by decide +kernel⟩, by decide +kernel, Or.inr ⟨"GrudgeYard", nm_ 143 (by decide +kernel) rfl⟩, ⟨gm 144 (by decide +kernel) rfl, rfl, rfl⟩⟩
theorem kX7_3 : Cond.methodLink RX7 3 Lib.objectInit ∈ lw_good := gm 146 (by decide +kernel) rfl
theorem clX10_16 : Cond.classLink RX10 16 "GrudgeYard$Stand" ∈ lw_good := gm 169 (by decide +kernel) rfl
theorem nX10_16 : zCl RX10 16 8 := ⟨RX8, TX8, 6, tyX8, rfl, rfl, inX8g, tyX8_ok, dfX8, clX10_16, gm 170 (by decide +kernel) rfl, gm 119 (by decide +kernel) rfl⟩
theorem kX10_18 : zMl RX10 18 mX8_init 0 2 := ⟨wX8_init, gm 119 (by decide +kernel) rfl, ⟨by decide +kernel, by decide +kernel⟩, by decide +kernel, Or.inr ⟨"GrudgeYard", nm_ 171 (by decide +kernel) rfl⟩, ⟨gm 172 (by decide +kernel) rfl, rfl, rfl⟩⟩
theorem kX8_3 : Cond.methodLink RX8 3 Lib.objectInit ∈ lw_good := gm 174 (by decide +kernel) rfl
theorem clX10_23 : Cond.classLink RX10 23 "GrudgeYard$Past" ∈ lw_good := gm 197 (by decide +kernel) rfl
theorem nX10_23 : zCl RX10 23 5 := ⟨RX5, TX5, 3, tyX5, rfl, rfl, inX5g, tyX5_ok, dfX5, clX10_23, gm 198 (by decide +kernel) rfl, gm 120 (by decide +kernel) rfl⟩
theorem kX10_25 : zMl RX10 25 mX5_init 0 2 := ⟨wX5_init, gm 120 (by decide +kernel) rfl, ⟨by decide +kernel, by decide +kernel⟩, by decide +kernel, Or.inr ⟨"GrudgeYard", nm_ 199 (by decide +kernel) rfl⟩, ⟨gm 200 (by decide +kernel) rfl, rfl, rfl⟩⟩
theorem kX5_3 : Cond.methodLink RX5 3 Lib.objectInit ∈ lw_good := gm 202 (by decide +kernel) rfl
theorem clX5_9 : Cond.classLink RX5 9 "GrudgeYard$Stand" ∈ lw_good := gm 203 (by decide +kernel) rfl
theorem nX5_9 : zCl RX5 9 8 := ⟨RX8, TX8, 6, tyX8, rfl, rfl, inX8g, tyX8_ok, dfX8, clX5_9, gm 170 (by decide +kernel) rfl, gm 119 (by decide +kernel) rfl⟩
theorem kX5_24 : zMl RX5 24 mX8_init 0 2 := ⟨wX8_init, gm 119 (by decide +kernel) rfl, ⟨by decide +kernel, by decide +kernel⟩, by decide +kernel, Or.inr ⟨"GrudgeYard", nm_ 205 (by decide +kernel) rfl⟩, ⟨gm 172 (by decide +kernel) rfl, rfl, rfl⟩⟩
theorem clX10_30 : Cond.classLink RX10 30 "GrudgeYard$Image" ∈ lw_good := gm 217 (by decide +kernel) rfl
theorem nX10_30 : zCl RX10 30 3 := ⟨RX3, TX3, 3, tyX3, rfl, rfl, inX3g, tyX3_ok, dfX3, clX10_30, gm 218 (by decide +kernel) rfl, gm 121 (by decide +kernel) rfl⟩
theorem kX10_32 : zMl RX10 32 mX3_init 0 2 := ⟨wX3_init, gm 121 (by decide +kernel) rfl, ⟨by decide +kernel, by decide +kernel⟩, by decide +kernel, Or.inr ⟨"GrudgeYard", nm_ 219 (by decide +kernel) rfl⟩, ⟨gm 220 (by decide +kernel) rfl, rfl, rfl⟩⟩
theorem kX3_1 : Cond.methodLink RX3 1 Lib.objectInit ∈ lw_good := gm 222 (by decide +kernel) rfl
theorem clX3_7 : Cond.classLink RX3 7 "GrudgeYard$Stand" ∈ lw_good := gm 223 (by decide +kernel) rfl
theorem nX3_7 : zCl RX3 7 8 := ⟨RX8, TX8, 6, tyX8, rfl, rfl, inX8g, tyX8_ok, dfX8, clX3_7, gm 170 (by decide +kernel) rfl, gm 119 (by decide +kernel) rfl⟩
theorem kX3_9 : zMl RX3 9 mX8_init 0 2 := ⟨wX8_init, gm 119 (by decide +kernel) rfl, ⟨by decide +kernel, by decide +kernel⟩, by decide +kernel, Or.inr ⟨"GrudgeYard", nm_ 224 (by decide +kernel) rfl⟩, ⟨gm 172 (by decide +kernel) rfl, rfl, rfl⟩⟩
theorem clX10_40 : Cond.classLink RX10 40 "GrudgeYard$Couplings" ∈ lw_good := gm 238 (by decide +kernel) rfl
theorem nX10_40 : zCl RX10 40 1 := ⟨RX1, TX1, 3, tyX1, rfl, rfl, inX1g, tyX1_ok, dfX1, clX10_40, gm 239 (by decide +kernel) rfl, gm 122 (by decide +kernel) rfl⟩
theorem kX10_42 : zMl RX10 42 mX1_init 0 2 := ⟨wX1_init, gm 122 (by decide +kernel) rfl, ⟨by decide +kernel, by decide +kernel⟩, by decide +kernel, Or.inr ⟨"GrudgeYard", nm_ 240 (by decide +kernel) rfl⟩, ⟨gm 241 (by decide +kernel) rfl, rfl, rfl⟩⟩
theorem kX1_3 : Cond.methodLink RX1 3 Lib.objectInit ∈ lw_good := gm 243 (by decide +kernel) rfl
theorem clX10_47 : Cond.classLink RX10 47 "GrudgeYard$Notes" ∈ lw_good := gm 255 (by decide +kernel) rfl
theorem nX10_47 : zCl RX10 47 4 := ⟨RX4, TX4, 4, tyX4, rfl, rfl, inX4g, tyX4_ok, dfX4, clX10_47, gm 256 (by decide +kernel) rfl, gm 123 (by decide +kernel) rfl⟩
theorem kX10_49 : zMl RX10 49 mX4_init 1 2 := ⟨wX4_init, gm 123 (by decide +kernel) rfl, ⟨by decide +kernel, by decide +kernel⟩, by decide +kernel, Or.inr ⟨"GrudgeYard", nm_ 257 (by decide +kernel) rfl⟩, ⟨gm 258 (by decide +kernel) rfl, rfl, rfl⟩⟩
theorem kX4_3 : Cond.methodLink RX4 3 Lib.objectInit ∈ lw_good := gm 260 (by decide +kernel) rfl
theorem kX4_15 : Cond.methodLink RX4 15 Lib.Math.max.name ∈ lw_good := gm 261 (by decide +kernel) rfl
theorem clX10_59 : Cond.classLink RX10 59 "GrudgeYard$Board" ∈ lw_good := gm 279 (by decide +kernel) rfl
theorem nX10_59 : zCl RX10 59 0 := ⟨RX0, TX0, 7, tyX0, rfl, rfl, inX0g, tyX0_ok, dfX0, clX10_59, gm 280 (by decide +kernel) rfl, gm 125 (by decide +kernel) rfl⟩
theorem kX10_61 : zMl RX10 61 mX0_init 0 2 := ⟨wX0_init, gm 125 (by decide +kernel) rfl, ⟨by decide +kernel, by decide +kernel⟩, by decide +kernel, Or.inr ⟨"GrudgeYard", nm_ 281 (by decide +kernel) rfl⟩, ⟨gm 282 (by decide +kernel) rfl, rfl, rfl⟩⟩
theorem kX0_3 : Cond.methodLink RX0 3 Lib.objectInit ∈ lw_good := gm 284 (by decide +kernel) rfl
theorem clX10_66 : Cond.classLink RX10 66 "GrudgeYard$Planner" ∈ lw_good := gm 313 (by decide +kernel) rfl
theorem nX10_66 : zCl RX10 66 6 := ⟨RX6, TX6, 4, tyX6, rfl, rfl, inX6g, tyX6_ok, dfX6, clX10_66, gm 314 (by decide +kernel) rfl, gm 126 (by decide +kernel) rfl⟩
theorem kX10_68 : zMl RX10 68 mX6_init 0 2 := ⟨wX6_init, gm 126 (by decide +kernel) rfl, ⟨by decide +kernel, by decide +kernel⟩, by decide +kernel, Or.inr ⟨"GrudgeYard", nm_ 315 (by decide +kernel) rfl⟩, ⟨gm 316 (by decide +kernel) rfl, rfl, rfl⟩⟩
theorem kX6_3 : Cond.methodLink RX6 3 Lib.objectInit ∈ lw_good := gm 318 (by decide +kernel) rfl
theorem clX10_73 : Cond.classLink RX10 73 "GrudgeYard$Fitting" ∈ lw_good := gm 334 (by decide +kernel) rfl
theorem nX10_73 : zCl RX10 73 2 := ⟨RX2, TX2, 3, tyX2, rfl, rfl, inX2g, tyX2_ok, dfX2, clX10_73, gm 335 (by decide +kernel) rfl, gm 127 (by decide +kernel) rfl⟩
theorem kX10_75 : zMl RX10 75 mX2_init 0 2 := ⟨wX2_init, gm 127 (by decide +kernel) rfl, ⟨by decide +kernel, by decide +kernel⟩, by decide +kernel, Or.inr ⟨"GrudgeYard", nm_ 336 (by decide +kernel) rfl⟩, ⟨gm 337 (by decide +kernel) rfl, rfl, rfl⟩⟩
theorem kX2_5 : Cond.methodLink RX2 5 Lib.objectInit ∈ lw_good := gm 339 (by decide +kernel) rfl
theorem clX10_80 : Cond.classLink RX10 80 "GrudgeYard$Yard" ∈ lw_good := gm 350 (by decide +kernel) rfl
theorem nX10_80 : zCl RX10 80 9 := ⟨RX9, TX9, 10, tyX9, rfl, rfl, inX9g, tyX9_ok, dfX9, clX10_80, gm 351 (by decide +kernel) rfl, gm 128 (by decide +kernel) rfl⟩
theorem kX10_82 : zMl RX10 82 mX9_init 0 2 := ⟨wX9_init, gm 128 (by decide +kernel) rfl, ⟨by decide +kernel, by decide +kernel⟩, by decide +kernel, Or.inr ⟨"GrudgeYard", nm_ 352 (by decide +kernel) rfl⟩, ⟨gm 353 (by decide +kernel) rfl, rfl, rfl⟩⟩
theorem kX9_3 : Cond.methodLink RX9 3 Lib.objectInit ∈ lw_good := gm 355 (by decide +kernel) rfl
theorem kL_13 : zMl RL 13 mX10_feed 1 0 := ⟨wX10_feed, gm 117 (by decide +kernel) rfl, ⟨by decide +kernel, by decide +kernel⟩, by decide +kernel, Or.inl (gm 439 (by decide +kernel) rfl), ⟨gm 440 (by decide +kernel) rfl, gm 441 (by decide +kernel) rfl⟩⟩
theorem kX10_95 : zMl RX10 95 mX7_addLetter 1 0 := ⟨wX7_addLetter, gm 118 (by decide +kernel) rfl, ⟨by decide +kernel, by decide +kernel⟩, by decide +kernel, Or.inr ⟨"GrudgeYard", nm_ 444 (by decide +kernel) rfl⟩, ⟨gm 446 (by decide +kernel) rfl, gm 0 (by decide +kernel) rfl⟩⟩
theorem kL_18 : zMl RL 18 mX10_yard 0 0 := ⟨wX10_yard, gm 117 (by decide +kernel) rfl, ⟨by decide +kernel, by decide +kernel⟩, by decide +kernel, Or.inl (gm 449 (by decide +kernel) rfl), ⟨gm 450 (by decide +kernel) rfl, gm 451 (by decide +kernel) rfl⟩⟩
theorem kX10_103 : zMl RX10 103 mX7_readInto 1 0 := ⟨wX7_readInto, gm 118 (by decide +kernel) rfl, ⟨by decide +kernel, by decide +kernel⟩, by decide +kernel, Or.inr ⟨"GrudgeYard", nm_ 453 (by decide +kernel) rfl⟩, ⟨gm 455 (by decide +kernel) rfl, gm 1 (by decide +kernel) rfl⟩⟩
theorem kX7_31 : zMl RX7 31 mX9_clear 0 0 := ⟨wX9_clear, gm 128 (by decide +kernel) rfl, ⟨by decide +kernel, by decide +kernel⟩, by decide +kernel, Or.inr ⟨"GrudgeYard", nm_ 457 (by decide +kernel) rfl⟩, ⟨gm 459 (by decide +kernel) rfl, gm 2 (by decide +kernel) rfl⟩⟩
theorem kX7_36 : zMl RX7 36 mX7_failed 0 0 := ⟨wX7_failed, gm 118 (by decide +kernel) rfl, ⟨by decide +kernel, by decide +kernel⟩, by decide +kernel, Or.inl (gm 461 (by decide +kernel) rfl), ⟨gm 463 (by decide +kernel) rfl, gm 3 (by decide +kernel) rfl⟩⟩
theorem kX7_40 : zMl RX7 40 mX7_atEnd 0 0 := ⟨wX7_atEnd, gm 118 (by decide +kernel) rfl, ⟨by decide +kernel, by decide +kernel⟩, by decide +kernel, Or.inl (gm 465 (by decide +kernel) rfl), ⟨gm 467 (by decide +kernel) rfl, gm 4 (by decide +kernel) rfl⟩⟩
theorem kX7_105 : zMl RX7 105 mX7_skipBlanks 0 0 := ⟨wX7_skipBlanks, gm 118 (by decide +kernel) rfl, ⟨by decide +kernel, by decide +kernel⟩, by decide +kernel, Or.inl (gm 469 (by decide +kernel) rfl), ⟨gm 471 (by decide +kernel) rfl, gm 5 (by decide +kernel) rfl⟩⟩
theorem kX7_47 : zMl RX7 47 mX7_letter 0 0 := ⟨wX7_letter, gm 118 (by decide +kernel) rfl, ⟨by decide +kernel, by decide +kernel⟩, by decide +kernel, Or.inl (gm 473 (by decide +kernel) rfl), ⟨gm 475 (by decide +kernel) rfl, gm 6 (by decide +kernel) rfl⟩⟩
theorem kX7_43 : zMl RX7 43 mX7_readClause 1 0 := ⟨wX7_readClause, gm 118 (by decide +kernel) rfl, ⟨by decide +kernel, by decide +kernel⟩, by decide +kernel, Or.inl (gm 477 (by decide +kernel) rfl), ⟨gm 479 (by decide +kernel) rfl, gm 7 (by decide +kernel) rfl⟩⟩
theorem kX7_51 : zMl RX7 51 mX7_isWord 1 1 := ⟨wX7_isWord, gm 118 (by decide +kernel) rfl, ⟨by decide +kernel, by decide +kernel⟩, by decide +kernel, Or.inl (gm 481 (by decide +kernel) rfl), gm 482 (by decide +kernel) rfl⟩
theorem kX7_58 : zMl RX7 58 mX7_fail 2 0 := ⟨wX7_fail, gm 118 (by decide +kernel) rfl, ⟨by decide +kernel, by decide +kernel⟩, by decide +kernel, Or.inl (gm 484 (by decide +kernel) rfl), ⟨gm 486 (by decide +kernel) rfl, gm 8 (by decide +kernel) rfl⟩⟩
theorem kX7_62 : zMl RX7 62 mX9_isFullOf 1 0 := ⟨wX9_isFullOf, gm 128 (by decide +kernel) rfl, ⟨by decide +kernel, by decide +kernel⟩, by decide +kernel, Or.inr ⟨"GrudgeYard", nm_ 488 (by decide +kernel) rfl⟩, ⟨gm 490 (by decide +kernel) rfl, gm 9 (by decide +kernel) rfl⟩⟩
theorem kX9_43 : zMl RX9 43 mJ6_bitCount_0f7a4 1 1 := ⟨wJ6_bitCount_0f7a4, gm 130 (by decide +kernel) rfl, ⟨by decide +kernel, by decide +kernel⟩, by decide +kernel, Or.inl (gm 492 (by decide +kernel) rfl), gm 493 (by decide +kernel) rfl⟩
theorem kX7_65 : zMl RX7 65 mX7_readRoads 1 0 := ⟨wX7_readRoads, gm 118 (by decide +kernel) rfl, ⟨by decide +kernel, by decide +kernel⟩, by decide +kernel, Or.inl (gm 498 (by decide +kernel) rfl), ⟨gm 500 (by decide +kernel) rfl, gm 10 (by decide +kernel) rfl⟩⟩
theorem kX7_80 : zMl RX7 80 mX7_goesOn 1 0 := ⟨wX7_goesOn, gm 118 (by decide +kernel) rfl, ⟨by decide +kernel, by decide +kernel⟩, by decide +kernel, Or.inl (gm 502 (by decide +kernel) rfl), ⟨gm 504 (by decide +kernel) rfl, gm 11 (by decide +kernel) rfl⟩⟩
theorem kX7_77 : zMl RX7 77 mX7_takes 1 0 := ⟨wX7_takes, gm 118 (by decide +kernel) rfl, ⟨by decide +kernel, by decide +kernel⟩, by decide +kernel, Or.inl (gm 506 (by decide +kernel) rfl), ⟨gm 508 (by decide +kernel) rfl, gm 12 (by decide +kernel) rfl⟩⟩
theorem kX7_83 : zMl RX7 83 mX7_readNumber 2 0 := ⟨wX7_readNumber, gm 118 (by decide +kernel) rfl, ⟨by decide +kernel, by decide +kernel⟩, by decide +kernel, Or.inl (gm 510 (by decide +kernel) rfl), ⟨gm 512 (by decide +kernel) rfl, gm 13 (by decide +kernel) rfl⟩⟩
theorem kX7_108 : zMl RX7 108 mX7_isFigure 1 1 := ⟨wX7_isFigure, gm 118 (by decide +kernel) rfl, ⟨by decide +kernel, by decide +kernel⟩, by decide +kernel, Or.inl (gm 514 (by decide +kernel) rfl), gm 515 (by decide +kernel) rfl⟩
theorem kX7_87 : zMl RX7 87 mX9_addRoad 1 0 := ⟨wX9_addRoad, gm 128 (by decide +kernel) rfl, ⟨by decide +kernel, by decide +kernel⟩, by decide +kernel, Or.inr ⟨"GrudgeYard", nm_ 517 (by decide +kernel) rfl⟩, ⟨gm 519 (by decide +kernel) rfl, gm 14 (by decide +kernel) rfl⟩⟩
theorem kX7_68 : zMl RX7 68 mX7_readWagon 1 0 := ⟨wX7_readWagon, gm 118 (by decide +kernel) rfl, ⟨by decide +kernel, by decide +kernel⟩, by decide +kernel, Or.inl (gm 521 (by decide +kernel) rfl), ⟨gm 523 (by decide +kernel) rfl, gm 15 (by decide +kernel) rfl⟩⟩
theorem kX7_91 : zMl RX7 91 mX9_addWagon 3 0 := ⟨wX9_addWagon, gm 128 (by decide +kernel) rfl, ⟨by decide +kernel, by decide +kernel⟩, by decide +kernel, Or.inr ⟨"GrudgeYard", nm_ 525 (by decide +kernel) rfl⟩, ⟨gm 527 (by decide +kernel) rfl, gm 16 (by decide +kernel) rfl⟩⟩
theorem kX7_71 : zMl RX7 71 mX7_readGrudge 1 0 := ⟨wX7_readGrudge, gm 118 (by decide +kernel) rfl, ⟨by decide +kernel, by decide +kernel⟩, by decide +kernel, Or.inl (gm 529 (by decide +kernel) rfl), ⟨gm 531 (by decide +kernel) rfl, gm 17 (by decide +kernel) rfl⟩⟩
theorem kX7_95 : zMl RX7 95 mX9_addGrudge 2 0 := ⟨wX9_addGrudge, gm 128 (by decide +kernel) rfl, ⟨by decide +kernel, by decide +kernel⟩, by decide +kernel, Or.inr ⟨"GrudgeYard", nm_ 533 (by decide +kernel) rfl⟩, ⟨gm 535 (by decide +kernel) rfl, gm 18 (by decide +kernel) rfl⟩⟩
theorem kX9_49 : zMl RX9 49 mX9_pairBit 2 1 := ⟨wX9_pairBit, gm 128 (by decide +kernel) rfl, ⟨by decide +kernel, by decide +kernel⟩, by decide +kernel, Or.inl (gm 537 (by decide +kernel) rfl), gm 538 (by decide +kernel) rfl⟩
theorem kX7_74 : zMl RX7 74 mX7_readTrain 1 0 := ⟨wX7_readTrain, gm 118 (by decide +kernel) rfl, ⟨by decide +kernel, by decide +kernel⟩, by decide +kernel, Or.inl (gm 540 (by decide +kernel) rfl), ⟨gm 542 (by decide +kernel) rfl, gm 19 (by decide +kernel) rfl⟩⟩
theorem kX7_102 : zMl RX7 102 mX9_addToTrain 1 0 := ⟨wX9_addToTrain, gm 128 (by decide +kernel) rfl, ⟨by decide +kernel, by decide +kernel⟩, by decide +kernel, Or.inr ⟨"GrudgeYard", nm_ 544 (by decide +kernel) rfl⟩, ⟨gm 546 (by decide +kernel) rfl, gm 20 (by decide +kernel) rfl⟩⟩
theorem kX9_53 : zMl RX9 53 mX9_hasWagon 1 0 := ⟨wX9_hasWagon, gm 128 (by decide +kernel) rfl, ⟨by decide +kernel, by decide +kernel⟩, by decide +kernel, Or.inl (gm 548 (by decide +kernel) rfl), ⟨gm 550 (by decide +kernel) rfl, gm 21 (by decide +kernel) rfl⟩⟩
theorem kX10_110 : zMl RX10 110 mX8_begin 1 0 := ⟨wX8_begin, gm 119 (by decide +kernel) rfl, ⟨by decide +kernel, by decide +kernel⟩, by decide +kernel, Or.inr ⟨"GrudgeYard", nm_ 552 (by decide +kernel) rfl⟩, ⟨gm 554 (by decide +kernel) rfl, gm 22 (by decide +kernel) rfl⟩⟩
theorem kX8_31 : zMl RX8 31 mJ7_fill_53178 2 1 := ⟨wJ7_fill_53178, gm 131 (by decide +kernel) rfl, ⟨by decide +kernel, by decide +kernel⟩, by decide +kernel, Or.inl (gm 556 (by decide +kernel) rfl), gm 557 (by decide +kernel) rfl⟩
theorem kX8_37 : zMl RX8 37 mX8_push 2 0 := ⟨wX8_push, gm 119 (by decide +kernel) rfl, ⟨by decide +kernel, by decide +kernel⟩, by decide +kernel, Or.inl (gm 559 (by decide +kernel) rfl), ⟨gm 561 (by decide +kernel) rfl, gm 23 (by decide +kernel) rfl⟩⟩
theorem kX8_51 : zMl RX8 51 mX8_countOf 1 0 := ⟨wX8_countOf, gm 119 (by decide +kernel) rfl, ⟨by decide +kernel, by decide +kernel⟩, by decide +kernel, Or.inl (gm 563 (by decide +kernel) rfl), ⟨gm 565 (by decide +kernel) rfl, gm 24 (by decide +kernel) rfl⟩⟩
theorem kX8_47 : zMl RX8 47 mX8_isLine 1 1 := ⟨wX8_isLine, gm 119 (by decide +kernel) rfl, ⟨by decide +kernel, by decide +kernel⟩, by decide +kernel, Or.inl (gm 567 (by decide +kernel) rfl), gm 568 (by decide +kernel) rfl⟩
theorem kX10_113 : zMl RX10 113 mX5_forget 0 0 := ⟨wX5_forget, gm 120 (by decide +kernel) rfl, ⟨by decide +kernel, by decide +kernel⟩, by decide +kernel, Or.inr ⟨"GrudgeYard", nm_ 570 (by decide +kernel) rfl⟩, ⟨gm 572 (by decide +kernel) rfl, gm 25 (by decide +kernel) rfl⟩⟩
theorem kX10_120 : zMl RX10 120 mX10_tearAll 0 0 := ⟨wX10_tearAll, gm 117 (by decide +kernel) rfl, ⟨by decide +kernel, by decide +kernel⟩, by decide +kernel, Or.inl (gm 574 (by decide +kernel) rfl), ⟨gm 576 (by decide +kernel) rfl, gm 26 (by decide +kernel) rfl⟩⟩
theorem kX10_315 : zMl RX10 315 mX1_forget 0 0 := ⟨wX1_forget, gm 122 (by decide +kernel) rfl, ⟨by decide +kernel, by decide +kernel⟩, by decide +kernel, Or.inr ⟨"GrudgeYard", nm_ 578 (by decide +kernel) rfl⟩, ⟨gm 580 (by decide +kernel) rfl, gm 27 (by decide +kernel) rfl⟩⟩
theorem kL_23 : zMl RL 23 mX10_fault 0 0 := ⟨wX10_fault, gm 117 (by decide +kernel) rfl, ⟨by decide +kernel, by decide +kernel⟩, by decide +kernel, Or.inl (gm 582 (by decide +kernel) rfl), ⟨gm 583 (by decide +kernel) rfl, gm 584 (by decide +kernel) rfl⟩⟩
theorem kL_27 : zMl RL 27 mX10_told 1 0 := ⟨wX10_told, gm 117 (by decide +kernel) rfl, ⟨by decide +kernel, by decide +kernel⟩, by decide +kernel, Or.inl (gm 586 (by decide +kernel) rfl), ⟨gm 587 (by decide +kernel) rfl, gm 588 (by decide +kernel) rfl⟩⟩
theorem kX10_132 : zMl RX10 132 mX8_countOf 1 0 := ⟨wX8_countOf, gm 119 (by decide +kernel) rfl, ⟨by decide +kernel, by decide +kernel⟩, by decide +kernel, Or.inr ⟨"GrudgeYard", nm_ 590 (by decide +kernel) rfl⟩, ⟨gm 565 (by decide +kernel) rfl, gm 24 (by decide +kernel) rfl⟩⟩
theorem kL_31 : zMl RL 31 mX10_wagon 2 0 := ⟨wX10_wagon, gm 117 (by decide +kernel) rfl, ⟨by decide +kernel, by decide +kernel⟩, by decide +kernel, Or.inl (gm 591 (by decide +kernel) rfl), ⟨gm 592 (by decide +kernel) rfl, gm 593 (by decide +kernel) rfl⟩⟩
theorem kX10_150 : zMl RX10 150 mX9_hasWagon 1 0 := ⟨wX9_hasWagon, gm 128 (by decide +kernel) rfl, ⟨by decide +kernel, by decide +kernel⟩, by decide +kernel, Or.inr ⟨"GrudgeYard", nm_ 595 (by decide +kernel) rfl⟩, ⟨gm 550 (by decide +kernel) rfl, gm 21 (by decide +kernel) rfl⟩⟩
theorem kX10_154 : zMl RX10 154 mX9_kindOf 1 0 := ⟨wX9_kindOf, gm 128 (by decide +kernel) rfl, ⟨by decide +kernel, by decide +kernel⟩, by decide +kernel, Or.inr ⟨"GrudgeYard", nm_ 597 (by decide +kernel) rfl⟩, ⟨gm 599 (by decide +kernel) rfl, gm 28 (by decide +kernel) rfl⟩⟩
theorem kX10_164 : zMl RX10 164 mX8_roadOf 1 0 := ⟨wX8_roadOf, gm 119 (by decide +kernel) rfl, ⟨by decide +kernel, by decide +kernel⟩, by decide +kernel, Or.inr ⟨"GrudgeYard", nm_ 601 (by decide +kernel) rfl⟩, ⟨gm 603 (by decide +kernel) rfl, gm 29 (by decide +kernel) rfl⟩⟩
theorem kX8_59 : zMl RX8 59 mX8_lineOf 1 0 := ⟨wX8_lineOf, gm 119 (by decide +kernel) rfl, ⟨by decide +kernel, by decide +kernel⟩, by decide +kernel, Or.inl (gm 605 (by decide +kernel) rfl), ⟨gm 607 (by decide +kernel) rfl, gm 30 (by decide +kernel) rfl⟩⟩
theorem kX8_55 : zMl RX8 55 mX8_wagonAt 2 0 := ⟨wX8_wagonAt, gm 119 (by decide +kernel) rfl, ⟨by decide +kernel, by decide +kernel⟩, by decide +kernel, Or.inl (gm 609 (by decide +kernel) rfl), ⟨gm 611 (by decide +kernel) rfl, gm 31 (by decide +kernel) rfl⟩⟩
theorem kX10_167 : zMl RX10 167 mX8_placeOf 1 0 := ⟨wX8_placeOf, gm 119 (by decide +kernel) rfl, ⟨by decide +kernel, by decide +kernel⟩, by decide +kernel, Or.inr ⟨"GrudgeYard", nm_ 613 (by decide +kernel) rfl⟩, ⟨gm 615 (by decide +kernel) rfl, gm 32 (by decide +kernel) rfl⟩⟩
theorem kX10_170 : zMl RX10 170 mX9_speedOf 1 0 := ⟨wX9_speedOf, gm 128 (by decide +kernel) rfl, ⟨by decide +kernel, by decide +kernel⟩, by decide +kernel, Or.inr ⟨"GrudgeYard", nm_ 617 (by decide +kernel) rfl⟩, ⟨gm 619 (by decide +kernel) rfl, gm 33 (by decide +kernel) rfl⟩⟩
theorem kL_36 : zMl RL 36 mX10_road 2 0 := ⟨wX10_road, gm 117 (by decide +kernel) rfl, ⟨by decide +kernel, by decide +kernel⟩, by decide +kernel, Or.inl (gm 621 (by decide +kernel) rfl), ⟨gm 622 (by decide +kernel) rfl, gm 623 (by decide +kernel) rfl⟩⟩
theorem kX10_173 : zMl RX10 173 mX9_hasRoad 1 0 := ⟨wX9_hasRoad, gm 128 (by decide +kernel) rfl, ⟨by decide +kernel, by decide +kernel⟩, by decide +kernel, Or.inr ⟨"GrudgeYard", nm_ 625 (by decide +kernel) rfl⟩, ⟨gm 627 (by decide +kernel) rfl, gm 34 (by decide +kernel) rfl⟩⟩
theorem kX10_176 : zMl RX10 176 mX9_roomOf 1 0 := ⟨wX9_roomOf, gm 128 (by decide +kernel) rfl, ⟨by decide +kernel, by decide +kernel⟩, by decide +kernel, Or.inr ⟨"GrudgeYard", nm_ 629 (by decide +kernel) rfl⟩, ⟨gm 631 (by decide +kernel) rfl, gm 35 (by decide +kernel) rfl⟩⟩
theorem kX9_57 : zMl RX9 57 mX9_hasRoad 1 0 := ⟨wX9_hasRoad, gm 128 (by decide +kernel) rfl, ⟨by decide +kernel, by decide +kernel⟩, by decide +kernel, Or.inl (gm 633 (by decide +kernel) rfl), ⟨gm 627 (by decide +kernel) rfl, gm 34 (by decide +kernel) rfl⟩⟩
theorem kX10_179 : zMl RX10 179 mX8_peaceOf 1 0 := ⟨wX8_peaceOf, gm 119 (by decide +kernel) rfl, ⟨by decide +kernel, by decide +kernel⟩, by decide +kernel, Or.inr ⟨"GrudgeYard", nm_ 634 (by decide +kernel) rfl⟩, ⟨gm 636 (by decide +kernel) rfl, gm 36 (by decide +kernel) rfl⟩⟩
theorem kL_40 : zMl RL 40 mX10_at 2 0 := ⟨wX10_at, gm 117 (by decide +kernel) rfl, ⟨by decide +kernel, by decide +kernel⟩, by decide +kernel, Or.inl (gm 638 (by decide +kernel) rfl), ⟨gm 639 (by decide +kernel) rfl, gm 640 (by decide +kernel) rfl⟩⟩
theorem kX10_182 : zMl RX10 182 mX8_fromHead 1 0 := ⟨wX8_fromHead, gm 119 (by decide +kernel) rfl, ⟨by decide +kernel, by decide +kernel⟩, by decide +kernel, Or.inr ⟨"GrudgeYard", nm_ 642 (by decide +kernel) rfl⟩, ⟨gm 644 (by decide +kernel) rfl, gm 37 (by decide +kernel) rfl⟩⟩
theorem kX10_185 : zMl RX10 185 mX8_wagonAt 2 0 := ⟨wX8_wagonAt, gm 119 (by decide +kernel) rfl, ⟨by decide +kernel, by decide +kernel⟩, by decide +kernel, Or.inr ⟨"GrudgeYard", nm_ 646 (by decide +kernel) rfl⟩, ⟨gm 611 (by decide +kernel) rfl, gm 31 (by decide +kernel) rfl⟩⟩
theorem kL_44 : zMl RL 44 mX10_enemies 2 0 := ⟨wX10_enemies, gm 117 (by decide +kernel) rfl, ⟨by decide +kernel, by decide +kernel⟩, by decide +kernel, Or.inl (gm 647 (by decide +kernel) rfl), ⟨gm 648 (by decide +kernel) rfl, gm 649 (by decide +kernel) rfl⟩⟩
theorem kX10_189 : zMl RX10 189 mX10_isKind 1 1 := ⟨wX10_isKind, gm 117 (by decide +kernel) rfl, ⟨by decide +kernel, by decide +kernel⟩, by decide +kernel, Or.inl (gm 651 (by decide +kernel) rfl), gm 652 (by decide +kernel) rfl⟩
theorem kX10_192 : zMl RX10 192 mX9_kindsKick 2 0 := ⟨wX9_kindsKick, gm 128 (by decide +kernel) rfl, ⟨by decide +kernel, by decide +kernel⟩, by decide +kernel, Or.inr ⟨"GrudgeYard", nm_ 654 (by decide +kernel) rfl⟩, ⟨gm 656 (by decide +kernel) rfl, gm 38 (by decide +kernel) rfl⟩⟩
theorem kX9_60 : zMl RX9 60 mX9_kickBy 3 1 := ⟨wX9_kickBy, gm 128 (by decide +kernel) rfl, ⟨by decide +kernel, by decide +kernel⟩, by decide +kernel, Or.inl (gm 658 (by decide +kernel) rfl), gm 659 (by decide +kernel) rfl⟩
theorem kL_48 : zMl RL 48 mX10_cut 2 0 := ⟨wX10_cut, gm 117 (by decide +kernel) rfl, ⟨by decide +kernel, by decide +kernel⟩, by decide +kernel, Or.inl (gm 661 (by decide +kernel) rfl), ⟨gm 662 (by decide +kernel) rfl, gm 663 (by decide +kernel) rfl⟩⟩
theorem kX10_197 : zMl RX10 197 mX5_remember 1 0 := ⟨wX5_remember, gm 120 (by decide +kernel) rfl, ⟨by decide +kernel, by decide +kernel⟩, by decide +kernel, Or.inr ⟨"GrudgeYard", nm_ 666 (by decide +kernel) rfl⟩, ⟨gm 668 (by decide +kernel) rfl, gm 39 (by decide +kernel) rfl⟩⟩
theorem kX5_25 : zMl RX5 25 mX8_become 1 0 := ⟨wX8_become, gm 119 (by decide +kernel) rfl, ⟨by decide +kernel, by decide +kernel⟩, by decide +kernel, Or.inr ⟨"GrudgeYard", nm_ 670 (by decide +kernel) rfl⟩, ⟨gm 672 (by decide +kernel) rfl, gm 40 (by decide +kernel) rfl⟩⟩
theorem kX8_41 : Cond.methodLink RX8 41 arraycopyName ∈ lw_good := gm 674 (by decide +kernel) rfl
theorem kX5_29 : Cond.methodLink RX5 29 Lib.Math.min.name ∈ lw_good := gm 677 (by decide +kernel) rfl
theorem kX10_201 : zMl RX10 201 mX8_letDown 3 0 := ⟨wX8_letDown, gm 119 (by decide +kernel) rfl, ⟨by decide +kernel, by decide +kernel⟩, by decide +kernel, Or.inr ⟨"GrudgeYard", nm_ 680 (by decide +kernel) rfl⟩, ⟨gm 682 (by decide +kernel) rfl, gm 41 (by decide +kernel) rfl⟩⟩
theorem kX8_62 : zMl RX8 62 mX8_lastIn 1 0 := ⟨wX8_lastIn, gm 119 (by decide +kernel) rfl, ⟨by decide +kernel, by decide +kernel⟩, by decide +kernel, Or.inl (gm 684 (by decide +kernel) rfl), ⟨gm 686 (by decide +kernel) rfl, gm 42 (by decide +kernel) rfl⟩⟩
theorem kX8_65 : zMl RX8 65 mX8_countKick 3 0 := ⟨wX8_countKick, gm 119 (by decide +kernel) rfl, ⟨by decide +kernel, by decide +kernel⟩, by decide +kernel, Or.inl (gm 688 (by decide +kernel) rfl), ⟨gm 690 (by decide +kernel) rfl, gm 43 (by decide +kernel) rfl⟩⟩
theorem kX8_69 : zMl RX8 69 mX9_kindOf 1 0 := ⟨wX9_kindOf, gm 128 (by decide +kernel) rfl, ⟨by decide +kernel, by decide +kernel⟩, by decide +kernel, Or.inr ⟨"GrudgeYard", nm_ 692 (by decide +kernel) rfl⟩, ⟨gm 599 (by decide +kernel) rfl, gm 28 (by decide +kernel) rfl⟩⟩
theorem kX8_74 : zMl RX8 74 mX9_kindsKick 2 0 := ⟨wX9_kindsKick, gm 128 (by decide +kernel) rfl, ⟨by decide +kernel, by decide +kernel⟩, by decide +kernel, Or.inr ⟨"GrudgeYard", nm_ 693 (by decide +kernel) rfl⟩, ⟨gm 656 (by decide +kernel) rfl, gm 38 (by decide +kernel) rfl⟩⟩
theorem kL_52 : zMl RL 52 mX10_pull 1 0 := ⟨wX10_pull, gm 117 (by decide +kernel) rfl, ⟨by decide +kernel, by decide +kernel⟩, by decide +kernel, Or.inl (gm 694 (by decide +kernel) rfl), ⟨gm 695 (by decide +kernel) rfl, gm 696 (by decide +kernel) rfl⟩⟩
theorem kX10_205 : zMl RX10 205 mX8_pullUp 1 0 := ⟨wX8_pullUp, gm 119 (by decide +kernel) rfl, ⟨by decide +kernel, by decide +kernel⟩, by decide +kernel, Or.inr ⟨"GrudgeYard", nm_ 698 (by decide +kernel) rfl⟩, ⟨gm 700 (by decide +kernel) rfl, gm 44 (by decide +kernel) rfl⟩⟩
theorem kL_56 : zMl RL 56 mX10_peace 2 0 := ⟨wX10_peace, gm 117 (by decide +kernel) rfl, ⟨by decide +kernel, by decide +kernel⟩, by decide +kernel, Or.inl (gm 702 (by decide +kernel) rfl), ⟨gm 703 (by decide +kernel) rfl, gm 704 (by decide +kernel) rfl⟩⟩
theorem kX10_208 : zMl RX10 208 mX8_hasPeace 2 0 := ⟨wX8_hasPeace, gm 119 (by decide +kernel) rfl, ⟨by decide +kernel, by decide +kernel⟩, by decide +kernel, Or.inr ⟨"GrudgeYard", nm_ 706 (by decide +kernel) rfl⟩, ⟨gm 708 (by decide +kernel) rfl, gm 45 (by decide +kernel) rfl⟩⟩
theorem kX8_78 : zMl RX8 78 mX8_peaceOf 1 0 := ⟨wX8_peaceOf, gm 119 (by decide +kernel) rfl, ⟨by decide +kernel, by decide +kernel⟩, by decide +kernel, Or.inl (gm 710 (by decide +kernel) rfl), ⟨gm 636 (by decide +kernel) rfl, gm 36 (by decide +kernel) rfl⟩⟩
theorem kX10_211 : zMl RX10 211 mX8_makePeace 2 0 := ⟨wX8_makePeace, gm 119 (by decide +kernel) rfl, ⟨by decide +kernel, by decide +kernel⟩, by decide +kernel, Or.inr ⟨"GrudgeYard", nm_ 711 (by decide +kernel) rfl⟩, ⟨gm 713 (by decide +kernel) rfl, gm 46 (by decide +kernel) rfl⟩⟩
theorem kX10_215 : zMl RX10 215 mX8_kicksBehind 3 0 := ⟨wX8_kicksBehind, gm 119 (by decide +kernel) rfl, ⟨by decide +kernel, by decide +kernel⟩, by decide +kernel, Or.inr ⟨"GrudgeYard", nm_ 715 (by decide +kernel) rfl⟩, ⟨gm 717 (by decide +kernel) rfl, gm 47 (by decide +kernel) rfl⟩⟩
theorem kL_60 : zMl RL 60 mX10_drift 1 0 := ⟨wX10_drift, gm 117 (by decide +kernel) rfl, ⟨by decide +kernel, by decide +kernel⟩, by decide +kernel, Or.inl (gm 719 (by decide +kernel) rfl), ⟨gm 720 (by decide +kernel) rfl, gm 721 (by decide +kernel) rfl⟩⟩
theorem kX10_220 : zMl RX10 220 mX10_draw 1 0 := ⟨wX10_draw, gm 117 (by decide +kernel) rfl, ⟨by decide +kernel, by decide +kernel⟩, by decide +kernel, Or.inl (gm 724 (by decide +kernel) rfl), ⟨gm 726 (by decide +kernel) rfl, gm 48 (by decide +kernel) rfl⟩⟩
theorem kX10_223 : zMl RX10 223 mX10_driftOnce 1 0 := ⟨wX10_driftOnce, gm 117 (by decide +kernel) rfl, ⟨by decide +kernel, by decide +kernel⟩, by decide +kernel, Or.inl (gm 732 (by decide +kernel) rfl), ⟨gm 734 (by decide +kernel) rfl, gm 49 (by decide +kernel) rfl⟩⟩
theorem kL_64 : zMl RL 64 mX10_undo 0 0 := ⟨wX10_undo, gm 117 (by decide +kernel) rfl, ⟨by decide +kernel, by decide +kernel⟩, by decide +kernel, Or.inl (gm 736 (by decide +kernel) rfl), ⟨gm 737 (by decide +kernel) rfl, gm 738 (by decide +kernel) rfl⟩⟩
theorem kX10_226 : zMl RX10 226 mX5_giveBack 1 0 := ⟨wX5_giveBack, gm 120 (by decide +kernel) rfl, ⟨by decide +kernel, by decide +kernel⟩, by decide +kernel, Or.inr ⟨"GrudgeYard", nm_ 740 (by decide +kernel) rfl⟩, ⟨gm 742 (by decide +kernel) rfl, gm 50 (by decide +kernel) rfl⟩⟩
theorem kL_68 : zMl RL 68 mX10_plan 1 0 := ⟨wX10_plan, gm 117 (by decide +kernel) rfl, ⟨by decide +kernel, by decide +kernel⟩, by decide +kernel, Or.inl (gm 744 (by decide +kernel) rfl), ⟨gm 745 (by decide +kernel) rfl, gm 746 (by decide +kernel) rfl⟩⟩
theorem kX10_230 : zMl RX10 230 mX0_setUp 2 0 := ⟨wX0_setUp, gm 125 (by decide +kernel) rfl, ⟨by decide +kernel, by decide +kernel⟩, by decide +kernel, Or.inr ⟨"GrudgeYard", nm_ 748 (by decide +kernel) rfl⟩, ⟨gm 750 (by decide +kernel) rfl, gm 51 (by decide +kernel) rfl⟩⟩
theorem kX0_37 : Cond.methodLink RX0 37 Lib.Math.min.name ∈ lw_good := gm 752 (by decide +kernel) rfl
theorem kX0_45 : zMl RX0 45 mX8_countOf 1 0 := ⟨wX8_countOf, gm 119 (by decide +kernel) rfl, ⟨by decide +kernel, by decide +kernel⟩, by decide +kernel, Or.inr ⟨"GrudgeYard", nm_ 753 (by decide +kernel) rfl⟩, ⟨gm 565 (by decide +kernel) rfl, gm 24 (by decide +kernel) rfl⟩⟩
theorem kX0_49 : zMl RX0 49 mX8_fromHead 1 0 := ⟨wX8_fromHead, gm 119 (by decide +kernel) rfl, ⟨by decide +kernel, by decide +kernel⟩, by decide +kernel, Or.inr ⟨"GrudgeYard", nm_ 754 (by decide +kernel) rfl⟩, ⟨gm 644 (by decide +kernel) rfl, gm 37 (by decide +kernel) rfl⟩⟩
theorem kX0_52 : zMl RX0 52 mX9_kindOf 1 0 := ⟨wX9_kindOf, gm 128 (by decide +kernel) rfl, ⟨by decide +kernel, by decide +kernel⟩, by decide +kernel, Or.inr ⟨"GrudgeYard", nm_ 755 (by decide +kernel) rfl⟩, ⟨gm 599 (by decide +kernel) rfl, gm 28 (by decide +kernel) rfl⟩⟩
theorem kX0_55 : zMl RX0 55 mX9_roomOf 1 0 := ⟨wX9_roomOf, gm 128 (by decide +kernel) rfl, ⟨by decide +kernel, by decide +kernel⟩, by decide +kernel, Or.inr ⟨"GrudgeYard", nm_ 756 (by decide +kernel) rfl⟩, ⟨gm 631 (by decide +kernel) rfl, gm 35 (by decide +kernel) rfl⟩⟩
theorem kX0_58 : zMl RX0 58 mX8_lastIn 1 0 := ⟨wX8_lastIn, gm 119 (by decide +kernel) rfl, ⟨by decide +kernel, by decide +kernel⟩, by decide +kernel, Or.inr ⟨"GrudgeYard", nm_ 757 (by decide +kernel) rfl⟩, ⟨gm 686 (by decide +kernel) rfl, gm 42 (by decide +kernel) rfl⟩⟩
theorem kX10_234 : zMl RX10 234 mX6_search 1 0 := ⟨wX6_search, gm 126 (by decide +kernel) rfl, ⟨by decide +kernel, by decide +kernel⟩, by decide +kernel, Or.inr ⟨"GrudgeYard", nm_ 758 (by decide +kernel) rfl⟩, ⟨gm 760 (by decide +kernel) rfl, gm 52 (by decide +kernel) rfl⟩⟩
theorem kX6_25 : zMl RX6 25 mX6_extend 4 0 := ⟨wX6_extend, gm 126 (by decide +kernel) rfl, ⟨by decide +kernel, by decide +kernel⟩, by decide +kernel, Or.inl (gm 762 (by decide +kernel) rfl), ⟨gm 764 (by decide +kernel) rfl, gm 53 (by decide +kernel) rfl⟩⟩
theorem kX6_34 : Cond.methodLink RX6 34 arraycopyName ∈ lw_good := gm 766 (by decide +kernel) rfl
theorem kX6_43 : zMl RX6 43 mX0_hasRoom 1 0 := ⟨wX0_hasRoom, gm 125 (by decide +kernel) rfl, ⟨by decide +kernel, by decide +kernel⟩, by decide +kernel, Or.inr ⟨"GrudgeYard", nm_ 767 (by decide +kernel) rfl⟩, ⟨gm 769 (by decide +kernel) rfl, gm 54 (by decide +kernel) rfl⟩⟩
theorem kX0_62 : zMl RX0 62 mX0_hasRoad 1 0 := ⟨wX0_hasRoad, gm 125 (by decide +kernel) rfl, ⟨by decide +kernel, by decide +kernel⟩, by decide +kernel, Or.inl (gm 771 (by decide +kernel) rfl), ⟨gm 773 (by decide +kernel) rfl, gm 55 (by decide +kernel) rfl⟩⟩
theorem kX6_47 : zMl RX6 47 mX0_lastKind 1 0 := ⟨wX0_lastKind, gm 125 (by decide +kernel) rfl, ⟨by decide +kernel, by decide +kernel⟩, by decide +kernel, Or.inr ⟨"GrudgeYard", nm_ 775 (by decide +kernel) rfl⟩, ⟨gm 777 (by decide +kernel) rfl, gm 56 (by decide +kernel) rfl⟩⟩
theorem kX6_51 : zMl RX6 51 mX0_put 2 0 := ⟨wX0_put, gm 125 (by decide +kernel) rfl, ⟨by decide +kernel, by decide +kernel⟩, by decide +kernel, Or.inr ⟨"GrudgeYard", nm_ 779 (by decide +kernel) rfl⟩, ⟨gm 781 (by decide +kernel) rfl, gm 57 (by decide +kernel) rfl⟩⟩
theorem kX0_66 : zMl RX0 66 mX0_kindOf 1 0 := ⟨wX0_kindOf, gm 125 (by decide +kernel) rfl, ⟨by decide +kernel, by decide +kernel⟩, by decide +kernel, Or.inl (gm 783 (by decide +kernel) rfl), ⟨gm 785 (by decide +kernel) rfl, gm 58 (by decide +kernel) rfl⟩⟩
theorem kX0_67 : zMl RX0 67 mX9_kickBy 3 1 := ⟨wX9_kickBy, gm 128 (by decide +kernel) rfl, ⟨by decide +kernel, by decide +kernel⟩, by decide +kernel, Or.inr ⟨"GrudgeYard", nm_ 787 (by decide +kernel) rfl⟩, gm 659 (by decide +kernel) rfl⟩
theorem kX6_55 : zMl RX6 55 mX0_takeBack 2 0 := ⟨wX0_takeBack, gm 125 (by decide +kernel) rfl, ⟨by decide +kernel, by decide +kernel⟩, by decide +kernel, Or.inr ⟨"GrudgeYard", nm_ 788 (by decide +kernel) rfl⟩, ⟨gm 790 (by decide +kernel) rfl, gm 59 (by decide +kernel) rfl⟩⟩
theorem kX10_238 : zMl RX10 238 mX6_found 0 0 := ⟨wX6_found, gm 126 (by decide +kernel) rfl, ⟨by decide +kernel, by decide +kernel⟩, by decide +kernel, Or.inr ⟨"GrudgeYard", nm_ 792 (by decide +kernel) rfl⟩, ⟨gm 794 (by decide +kernel) rfl, gm 60 (by decide +kernel) rfl⟩⟩
theorem kX10_251 : zMl RX10 251 mX6_roadOf 2 0 := ⟨wX6_roadOf, gm 126 (by decide +kernel) rfl, ⟨by decide +kernel, by decide +kernel⟩, by decide +kernel, Or.inr ⟨"GrudgeYard", nm_ 796 (by decide +kernel) rfl⟩, ⟨gm 798 (by decide +kernel) rfl, gm 61 (by decide +kernel) rfl⟩⟩
theorem kL_72 : zMl RL 72 mX10_leastRoads 1 0 := ⟨wX10_leastRoads, gm 117 (by decide +kernel) rfl, ⟨by decide +kernel, by decide +kernel⟩, by decide +kernel, Or.inl (gm 800 (by decide +kernel) rfl), ⟨gm 801 (by decide +kernel) rfl, gm 802 (by decide +kernel) rfl⟩⟩
theorem kX10_253 : zMl RX10 253 mX9_sortingRoad 1 0 := ⟨wX9_sortingRoad, gm 128 (by decide +kernel) rfl, ⟨by decide +kernel, by decide +kernel⟩, by decide +kernel, Or.inr ⟨"GrudgeYard", nm_ 804 (by decide +kernel) rfl⟩, ⟨gm 806 (by decide +kernel) rfl, gm 62 (by decide +kernel) rfl⟩⟩
theorem kX9_67 : zMl RX9 67 mX9_firstRoadFor 2 0 := ⟨wX9_firstRoadFor, gm 128 (by decide +kernel) rfl, ⟨by decide +kernel, by decide +kernel⟩, by decide +kernel, Or.inl (gm 808 (by decide +kernel) rfl), ⟨gm 810 (by decide +kernel) rfl, gm 63 (by decide +kernel) rfl⟩⟩
theorem kX9_70 : Cond.methodLink RX9 70 Lib.Math.max.name ∈ lw_good := gm 812 (by decide +kernel) rfl
theorem kL_76 : zMl RL 76 mX10_safe 3 0 := ⟨wX10_safe, gm 117 (by decide +kernel) rfl, ⟨by decide +kernel, by decide +kernel⟩, by decide +kernel, Or.inl (gm 813 (by decide +kernel) rfl), ⟨gm 814 (by decide +kernel) rfl, gm 815 (by decide +kernel) rfl⟩⟩
theorem kX10_256 : zMl RX10 256 mX9_timeOf 2 0 := ⟨wX9_timeOf, gm 128 (by decide +kernel) rfl, ⟨by decide +kernel, by decide +kernel⟩, by decide +kernel, Or.inr ⟨"GrudgeYard", nm_ 817 (by decide +kernel) rfl⟩, ⟨gm 819 (by decide +kernel) rfl, gm 64 (by decide +kernel) rfl⟩⟩
theorem kX9_64 : zMl RX9 64 mX9_speedOf 1 0 := ⟨wX9_speedOf, gm 128 (by decide +kernel) rfl, ⟨by decide +kernel, by decide +kernel⟩, by decide +kernel, Or.inl (gm 821 (by decide +kernel) rfl), ⟨gm 619 (by decide +kernel) rfl, gm 33 (by decide +kernel) rfl⟩⟩
theorem kX10_259 : Cond.methodLink RX10 259 Lib.Math.max.name ∈ lw_good := gm 822 (by decide +kernel) rfl
theorem kL_81 : zMl RL 81 mX10_foremen 1 0 := ⟨wX10_foremen, gm 117 (by decide +kernel) rfl, ⟨by decide +kernel, by decide +kernel⟩, by decide +kernel, Or.inl (gm 823 (by decide +kernel) rfl), ⟨gm 824 (by decide +kernel) rfl, gm 825 (by decide +kernel) rfl⟩⟩
theorem kX10_264 : Cond.methodLink RX10 264 Lib.Math.min.name ∈ lw_good := gm 827 (by decide +kernel) rfl
theorem kX10_267 : zMl RX10 267 mX10_foremenKicks 3 1 := ⟨wX10_foremenKicks, gm 117 (by decide +kernel) rfl, ⟨by decide +kernel, by decide +kernel⟩, by decide +kernel, Or.inl (gm 828 (by decide +kernel) rfl), gm 829 (by decide +kernel) rfl⟩
theorem kX10_272 : zMl RX10 272 mX0_hasRoom 1 0 := ⟨wX0_hasRoom, gm 125 (by decide +kernel) rfl, ⟨by decide +kernel, by decide +kernel⟩, by decide +kernel, Or.inr ⟨"GrudgeYard", nm_ 831 (by decide +kernel) rfl⟩, ⟨gm 769 (by decide +kernel) rfl, gm 54 (by decide +kernel) rfl⟩⟩
theorem kX10_275 : zMl RX10 275 mX0_lastKind 1 0 := ⟨wX0_lastKind, gm 125 (by decide +kernel) rfl, ⟨by decide +kernel, by decide +kernel⟩, by decide +kernel, Or.inr ⟨"GrudgeYard", nm_ 832 (by decide +kernel) rfl⟩, ⟨gm 777 (by decide +kernel) rfl, gm 56 (by decide +kernel) rfl⟩⟩
theorem kX10_278 : zMl RX10 278 mX0_put 2 0 := ⟨wX0_put, gm 125 (by decide +kernel) rfl, ⟨by decide +kernel, by decide +kernel⟩, by decide +kernel, Or.inr ⟨"GrudgeYard", nm_ 833 (by decide +kernel) rfl⟩, ⟨gm 781 (by decide +kernel) rfl, gm 57 (by decide +kernel) rfl⟩⟩
theorem kX10_281 : zMl RX10 281 mX0_takeBack 2 0 := ⟨wX0_takeBack, gm 125 (by decide +kernel) rfl, ⟨by decide +kernel, by decide +kernel⟩, by decide +kernel, Or.inr ⟨"GrudgeYard", nm_ 834 (by decide +kernel) rfl⟩, ⟨gm 790 (by decide +kernel) rfl, gm 59 (by decide +kernel) rfl⟩⟩
theorem kL_85 : zMl RL 85 mX10_fewest 1 0 := ⟨wX10_fewest, gm 117 (by decide +kernel) rfl, ⟨by decide +kernel, by decide +kernel⟩, by decide +kernel, Or.inl (gm 835 (by decide +kernel) rfl), ⟨gm 836 (by decide +kernel) rfl, gm 837 (by decide +kernel) rfl⟩⟩
theorem kL_89 : zMl RL 89 mX10_rusted 2 0 := ⟨wX10_rusted, gm 117 (by decide +kernel) rfl, ⟨by decide +kernel, by decide +kernel⟩, by decide +kernel, Or.inl (gm 839 (by decide +kernel) rfl), ⟨gm 840 (by decide +kernel) rfl, gm 841 (by decide +kernel) rfl⟩⟩
theorem kL_93 : zMl RL 93 mX10_couple 3 0 := ⟨wX10_couple, gm 117 (by decide +kernel) rfl, ⟨by decide +kernel, by decide +kernel⟩, by decide +kernel, Or.inl (gm 845 (by decide +kernel) rfl), ⟨gm 846 (by decide +kernel) rfl, gm 847 (by decide +kernel) rfl⟩⟩
theorem kX10_288 : zMl RX10 288 mX1_add 3 0 := ⟨wX1_add, gm 122 (by decide +kernel) rfl, ⟨by decide +kernel, by decide +kernel⟩, by decide +kernel, Or.inr ⟨"GrudgeYard", nm_ 849 (by decide +kernel) rfl⟩, ⟨gm 851 (by decide +kernel) rfl, gm 65 (by decide +kernel) rfl⟩⟩
theorem kX1_21 : zMl RX1 21 mX9_pairBit 2 1 := ⟨wX9_pairBit, gm 128 (by decide +kernel) rfl, ⟨by decide +kernel, by decide +kernel⟩, by decide +kernel, Or.inr ⟨"GrudgeYard", nm_ 853 (by decide +kernel) rfl⟩, gm 538 (by decide +kernel) rfl⟩
theorem kL_98 : zMl RL 98 mX10_laws 1 0 := ⟨wX10_laws, gm 117 (by decide +kernel) rfl, ⟨by decide +kernel, by decide +kernel⟩, by decide +kernel, Or.inl (gm 854 (by decide +kernel) rfl), ⟨gm 855 (by decide +kernel) rfl, gm 856 (by decide +kernel) rfl⟩⟩
theorem kX10_292 : zMl RX10 292 mX1_leastLaw 0 0 := ⟨wX1_leastLaw, gm 122 (by decide +kernel) rfl, ⟨by decide +kernel, by decide +kernel⟩, by decide +kernel, Or.inr ⟨"GrudgeYard", nm_ 858 (by decide +kernel) rfl⟩, ⟨gm 860 (by decide +kernel) rfl, gm 66 (by decide +kernel) rfl⟩⟩
theorem kX1_27 : zMl RX1 27 mX1_circusKicked 0 0 := ⟨wX1_circusKicked, gm 122 (by decide +kernel) rfl, ⟨by decide +kernel, by decide +kernel⟩, by decide +kernel, Or.inl (gm 862 (by decide +kernel) rfl), ⟨gm 864 (by decide +kernel) rfl, gm 67 (by decide +kernel) rfl⟩⟩
theorem kX1_38 : zMl RX1 38 mJ6_bitCount_0f7a4 1 1 := ⟨wJ6_bitCount_0f7a4, gm 130 (by decide +kernel) rfl, ⟨by decide +kernel, by decide +kernel⟩, by decide +kernel, Or.inl (gm 866 (by decide +kernel) rfl), gm 493 (by decide +kernel) rfl⟩
theorem kX1_31 : zMl RX1 31 mX1_pairsIn 1 1 := ⟨wX1_pairsIn, gm 122 (by decide +kernel) rfl, ⟨by decide +kernel, by decide +kernel⟩, by decide +kernel, Or.inl (gm 867 (by decide +kernel) rfl), gm 868 (by decide +kernel) rfl⟩
theorem kX10_296 : zMl RX10 296 mX1_lawsOf 1 0 := ⟨wX1_lawsOf, gm 122 (by decide +kernel) rfl, ⟨by decide +kernel, by decide +kernel⟩, by decide +kernel, Or.inr ⟨"GrudgeYard", nm_ 870 (by decide +kernel) rfl⟩, ⟨gm 872 (by decide +kernel) rfl, gm 68 (by decide +kernel) rfl⟩⟩
theorem kX1_35 : zMl RX1 35 mX1_choose 2 1 := ⟨wX1_choose, gm 122 (by decide +kernel) rfl, ⟨by decide +kernel, by decide +kernel⟩, by decide +kernel, Or.inl (gm 874 (by decide +kernel) rfl), gm 875 (by decide +kernel) rfl⟩
theorem kL_102 : zMl RL 102 mX10_next 0 0 := ⟨wX10_next, gm 117 (by decide +kernel) rfl, ⟨by decide +kernel, by decide +kernel⟩, by decide +kernel, Or.inl (gm 877 (by decide +kernel) rfl), ⟨gm 878 (by decide +kernel) rfl, gm 879 (by decide +kernel) rfl⟩⟩
theorem kX10_299 : zMl RX10 299 mX1_firstUntried 0 0 := ⟨wX1_firstUntried, gm 122 (by decide +kernel) rfl, ⟨by decide +kernel, by decide +kernel⟩, by decide +kernel, Or.inr ⟨"GrudgeYard", nm_ 881 (by decide +kernel) rfl⟩, ⟨gm 883 (by decide +kernel) rfl, gm 69 (by decide +kernel) rfl⟩⟩
theorem kL_106 : zMl RL 106 mX10_chalk 3 0 := ⟨wX10_chalk, gm 117 (by decide +kernel) rfl, ⟨by decide +kernel, by decide +kernel⟩, by decide +kernel, Or.inl (gm 885 (by decide +kernel) rfl), ⟨gm 886 (by decide +kernel) rfl, gm 887 (by decide +kernel) rfl⟩⟩
theorem kX10_302 : zMl RX10 302 mX10_addNote 4 1 := ⟨wX10_addNote, gm 117 (by decide +kernel) rfl, ⟨by decide +kernel, by decide +kernel⟩, by decide +kernel, Or.inl (gm 889 (by decide +kernel) rfl), gm 890 (by decide +kernel) rfl⟩
theorem kX10_312 : zMl RX10 312 mX4_add 3 0 := ⟨wX4_add, gm 123 (by decide +kernel) rfl, ⟨by decide +kernel, by decide +kernel⟩, by decide +kernel, Or.inr ⟨"GrudgeYard", nm_ 892 (by decide +kernel) rfl⟩, ⟨gm 894 (by decide +kernel) rfl, gm 70 (by decide +kernel) rfl⟩⟩
theorem kL_110 : zMl RL 110 mX10_fit 1 0 := ⟨wX10_fit, gm 117 (by decide +kernel) rfl, ⟨by decide +kernel, by decide +kernel⟩, by decide +kernel, Or.inl (gm 896 (by decide +kernel) rfl), ⟨gm 897 (by decide +kernel) rfl, gm 898 (by decide +kernel) rfl⟩⟩
theorem kX10_306 : zMl RX10 306 mX2_search 4 0 := ⟨wX2_search, gm 127 (by decide +kernel) rfl, ⟨by decide +kernel, by decide +kernel⟩, by decide +kernel, Or.inr ⟨"GrudgeYard", nm_ 900 (by decide +kernel) rfl⟩, ⟨gm 902 (by decide +kernel) rfl, gm 71 (by decide +kernel) rfl⟩⟩
theorem kX2_21 : zMl RX2 21 mJ7_fill_53178 2 1 := ⟨wJ7_fill_53178, gm 131 (by decide +kernel) rfl, ⟨by decide +kernel, by decide +kernel⟩, by decide +kernel, Or.inl (gm 904 (by decide +kernel) rfl), gm 557 (by decide +kernel) rfl⟩
theorem kX2_33 : zMl RX2 33 mX4_roadOf 1 0 := ⟨wX4_roadOf, gm 123 (by decide +kernel) rfl, ⟨by decide +kernel, by decide +kernel⟩, by decide +kernel, Or.inr ⟨"GrudgeYard", nm_ 905 (by decide +kernel) rfl⟩, ⟨gm 907 (by decide +kernel) rfl, gm 72 (by decide +kernel) rfl⟩⟩
theorem kX4_31 : zMl RX4 31 mX4_has 1 0 := ⟨wX4_has, gm 123 (by decide +kernel) rfl, ⟨by decide +kernel, by decide +kernel⟩, by decide +kernel, Or.inl (gm 909 (by decide +kernel) rfl), ⟨gm 911 (by decide +kernel) rfl, gm 73 (by decide +kernel) rfl⟩⟩
theorem kX2_37 : zMl RX2 37 mX4_placeOf 1 0 := ⟨wX4_placeOf, gm 123 (by decide +kernel) rfl, ⟨by decide +kernel, by decide +kernel⟩, by decide +kernel, Or.inr ⟨"GrudgeYard", nm_ 913 (by decide +kernel) rfl⟩, ⟨gm 915 (by decide +kernel) rfl, gm 74 (by decide +kernel) rfl⟩⟩
theorem kX2_40 : zMl RX2 40 mX4_whatOf 1 0 := ⟨wX4_whatOf, gm 123 (by decide +kernel) rfl, ⟨by decide +kernel, by decide +kernel⟩, by decide +kernel, Or.inr ⟨"GrudgeYard", nm_ 917 (by decide +kernel) rfl⟩, ⟨gm 919 (by decide +kernel) rfl, gm 75 (by decide +kernel) rfl⟩⟩
theorem kX2_43 : zMl RX2 43 mX2_want 3 0 := ⟨wX2_want, gm 127 (by decide +kernel) rfl, ⟨by decide +kernel, by decide +kernel⟩, by decide +kernel, Or.inl (gm 921 (by decide +kernel) rfl), ⟨gm 923 (by decide +kernel) rfl, gm 76 (by decide +kernel) rfl⟩⟩
theorem kX2_77 : zMl RX2 77 mX2_isPlace 2 1 := ⟨wX2_isPlace, gm 127 (by decide +kernel) rfl, ⟨by decide +kernel, by decide +kernel⟩, by decide +kernel, Or.inl (gm 925 (by decide +kernel) rfl), gm 926 (by decide +kernel) rfl⟩
theorem kX2_52 : zMl RX2 52 mX2_wantedAt 2 0 := ⟨wX2_wantedAt, gm 127 (by decide +kernel) rfl, ⟨by decide +kernel, by decide +kernel⟩, by decide +kernel, Or.inl (gm 928 (by decide +kernel) rfl), ⟨gm 930 (by decide +kernel) rfl, gm 77 (by decide +kernel) rfl⟩⟩
theorem kX2_56 : zMl RX2 56 mX8_countOf 1 0 := ⟨wX8_countOf, gm 119 (by decide +kernel) rfl, ⟨by decide +kernel, by decide +kernel⟩, by decide +kernel, Or.inr ⟨"GrudgeYard", nm_ 932 (by decide +kernel) rfl⟩, ⟨gm 565 (by decide +kernel) rfl, gm 24 (by decide +kernel) rfl⟩⟩
theorem kX2_61 : zMl RX2 61 mX2_needsWagon 1 1 := ⟨wX2_needsWagon, gm 127 (by decide +kernel) rfl, ⟨by decide +kernel, by decide +kernel⟩, by decide +kernel, Or.inl (gm 933 (by decide +kernel) rfl), gm 934 (by decide +kernel) rfl⟩
theorem kX2_65 : zMl RX2 65 mX8_wagonAt 2 0 := ⟨wX8_wagonAt, gm 119 (by decide +kernel) rfl, ⟨by decide +kernel, by decide +kernel⟩, by decide +kernel, Or.inr ⟨"GrudgeYard", nm_ 936 (by decide +kernel) rfl⟩, ⟨gm 611 (by decide +kernel) rfl, gm 31 (by decide +kernel) rfl⟩⟩
theorem kX2_68 : zMl RX2 68 mX9_kindOf 1 0 := ⟨wX9_kindOf, gm 128 (by decide +kernel) rfl, ⟨by decide +kernel, by decide +kernel⟩, by decide +kernel, Or.inr ⟨"GrudgeYard", nm_ 937 (by decide +kernel) rfl⟩, ⟨gm 599 (by decide +kernel) rfl, gm 28 (by decide +kernel) rfl⟩⟩
theorem kX2_73 : zMl RX2 73 mX2_rowsFrom 4 0 := ⟨wX2_rowsFrom, gm 127 (by decide +kernel) rfl, ⟨by decide +kernel, by decide +kernel⟩, by decide +kernel, Or.inl (gm 938 (by decide +kernel) rfl), ⟨gm 940 (by decide +kernel) rfl, gm 78 (by decide +kernel) rfl⟩⟩
theorem kX2_84 : zMl RX2 84 mX2_countRows 4 0 := ⟨wX2_countRows, gm 127 (by decide +kernel) rfl, ⟨by decide +kernel, by decide +kernel⟩, by decide +kernel, Or.inl (gm 942 (by decide +kernel) rfl), ⟨gm 944 (by decide +kernel) rfl, gm 79 (by decide +kernel) rfl⟩⟩
theorem kX2_87 : zMl RX2 87 mX0_countOf 1 0 := ⟨wX0_countOf, gm 125 (by decide +kernel) rfl, ⟨by decide +kernel, by decide +kernel⟩, by decide +kernel, Or.inr ⟨"GrudgeYard", nm_ 946 (by decide +kernel) rfl⟩, ⟨gm 948 (by decide +kernel) rfl, gm 80 (by decide +kernel) rfl⟩⟩
theorem kX2_88 : zMl RX2 88 mX0_hasRoom 1 0 := ⟨wX0_hasRoom, gm 125 (by decide +kernel) rfl, ⟨by decide +kernel, by decide +kernel⟩, by decide +kernel, Or.inr ⟨"GrudgeYard", nm_ 950 (by decide +kernel) rfl⟩, ⟨gm 769 (by decide +kernel) rfl, gm 54 (by decide +kernel) rfl⟩⟩
theorem kX2_91 : zMl RX2 91 mX0_kindOf 1 0 := ⟨wX0_kindOf, gm 125 (by decide +kernel) rfl, ⟨by decide +kernel, by decide +kernel⟩, by decide +kernel, Or.inr ⟨"GrudgeYard", nm_ 951 (by decide +kernel) rfl⟩, ⟨gm 785 (by decide +kernel) rfl, gm 58 (by decide +kernel) rfl⟩⟩
theorem kX2_92 : zMl RX2 92 mX0_lastKind 1 0 := ⟨wX0_lastKind, gm 125 (by decide +kernel) rfl, ⟨by decide +kernel, by decide +kernel⟩, by decide +kernel, Or.inr ⟨"GrudgeYard", nm_ 952 (by decide +kernel) rfl⟩, ⟨gm 777 (by decide +kernel) rfl, gm 56 (by decide +kernel) rfl⟩⟩
theorem kX2_95 : zMl RX2 95 mX0_put 2 0 := ⟨wX0_put, gm 125 (by decide +kernel) rfl, ⟨by decide +kernel, by decide +kernel⟩, by decide +kernel, Or.inr ⟨"GrudgeYard", nm_ 953 (by decide +kernel) rfl⟩, ⟨gm 781 (by decide +kernel) rfl, gm 57 (by decide +kernel) rfl⟩⟩
theorem kX2_98 : zMl RX2 98 mX0_takeBack 2 0 := ⟨wX0_takeBack, gm 125 (by decide +kernel) rfl, ⟨by decide +kernel, by decide +kernel⟩, by decide +kernel, Or.inr ⟨"GrudgeYard", nm_ 954 (by decide +kernel) rfl⟩, ⟨gm 790 (by decide +kernel) rfl, gm 59 (by decide +kernel) rfl⟩⟩
theorem kX10_309 : zMl RX10 309 mX2_sureRoad 2 0 := ⟨wX2_sureRoad, gm 127 (by decide +kernel) rfl, ⟨by decide +kernel, by decide +kernel⟩, by decide +kernel, Or.inr ⟨"GrudgeYard", nm_ 955 (by decide +kernel) rfl⟩, ⟨gm 957 (by decide +kernel) rfl, gm 81 (by decide +kernel) rfl⟩⟩
theorem kX2_102 : zMl RX2 102 mJ6_bitCount_0f7a4 1 1 := ⟨wJ6_bitCount_0f7a4, gm 130 (by decide +kernel) rfl, ⟨by decide +kernel, by decide +kernel⟩, by decide +kernel, Or.inl (gm 959 (by decide +kernel) rfl), gm 493 (by decide +kernel) rfl⟩
theorem kX2_107 : zMl RX2 107 mJ6_numberOfTrailingZeros_0f7a4 1 1 := ⟨wJ6_numberOfTrailingZeros_0f7a4, gm 130 (by decide +kernel) rfl, ⟨by decide +kernel, by decide +kernel⟩, by decide +kernel, Or.inl (gm 960 (by decide +kernel) rfl), gm 961 (by decide +kernel) rfl⟩
theorem kL_114 : zMl RL 114 mX10_write 3 0 := ⟨wX10_write, gm 117 (by decide +kernel) rfl, ⟨by decide +kernel, by decide +kernel⟩, by decide +kernel, Or.inl (gm 964 (by decide +kernel) rfl), ⟨gm 965 (by decide +kernel) rfl, gm 966 (by decide +kernel) rfl⟩⟩
theorem kL_118 : zMl RL 118 mX10_tear 0 0 := ⟨wX10_tear, gm 117 (by decide +kernel) rfl, ⟨by decide +kernel, by decide +kernel⟩, by decide +kernel, Or.inl (gm 968 (by decide +kernel) rfl), ⟨gm 969 (by decide +kernel) rfl, gm 970 (by decide +kernel) rfl⟩⟩
theorem kL_122 : zMl RL 122 mX10_judge 0 0 := ⟨wX10_judge, gm 117 (by decide +kernel) rfl, ⟨by decide +kernel, by decide +kernel⟩, by decide +kernel, Or.inl (gm 972 (by decide +kernel) rfl), ⟨gm 973 (by decide +kernel) rfl, gm 974 (by decide +kernel) rfl⟩⟩
theorem kX10_316 : zMl RX10 316 mX4_roadOf 1 0 := ⟨wX4_roadOf, gm 123 (by decide +kernel) rfl, ⟨by decide +kernel, by decide +kernel⟩, by decide +kernel, Or.inr ⟨"GrudgeYard", nm_ 976 (by decide +kernel) rfl⟩, ⟨gm 907 (by decide +kernel) rfl, gm 72 (by decide +kernel) rfl⟩⟩
theorem kX10_317 : zMl RX10 317 mX4_placeOf 1 0 := ⟨wX4_placeOf, gm 123 (by decide +kernel) rfl, ⟨by decide +kernel, by decide +kernel⟩, by decide +kernel, Or.inr ⟨"GrudgeYard", nm_ 977 (by decide +kernel) rfl⟩, ⟨gm 915 (by decide +kernel) rfl, gm 74 (by decide +kernel) rfl⟩⟩
theorem kX10_318 : zMl RX10 318 mX4_whatOf 1 0 := ⟨wX4_whatOf, gm 123 (by decide +kernel) rfl, ⟨by decide +kernel, by decide +kernel⟩, by decide +kernel, Or.inr ⟨"GrudgeYard", nm_ 978 (by decide +kernel) rfl⟩, ⟨gm 919 (by decide +kernel) rfl, gm 75 (by decide +kernel) rfl⟩⟩
theorem kL_126 : zMl RL 126 mX10_seed 1 0 := ⟨wX10_seed, gm 117 (by decide +kernel) rfl, ⟨by decide +kernel, by decide +kernel⟩, by decide +kernel, Or.inl (gm 979 (by decide +kernel) rfl), ⟨gm 980 (by decide +kernel) rfl, gm 981 (by decide +kernel) rfl⟩⟩
theorem kL_130 : zMl RL 130 mX10_keep 1 0 := ⟨wX10_keep, gm 117 (by decide +kernel) rfl, ⟨by decide +kernel, by decide +kernel⟩, by decide +kernel, Or.inl (gm 983 (by decide +kernel) rfl), ⟨gm 984 (by decide +kernel) rfl, gm 985 (by decide +kernel) rfl⟩⟩
theorem kX10_328 : zMl RX10 328 mX10_imageOf 1 0 := ⟨wX10_imageOf, gm 117 (by decide +kernel) rfl, ⟨by decide +kernel, by decide +kernel⟩, by decide +kernel, Or.inl (gm 987 (by decide +kernel) rfl), ⟨gm 989 (by decide +kernel) rfl, gm 82 (by decide +kernel) rfl⟩⟩
theorem kX10_335 : zMl RX10 335 mX8_become 1 0 := ⟨wX8_become, gm 119 (by decide +kernel) rfl, ⟨by decide +kernel, by decide +kernel⟩, by decide +kernel, Or.inr ⟨"GrudgeYard", nm_ 991 (by decide +kernel) rfl⟩, ⟨gm 672 (by decide +kernel) rfl, gm 40 (by decide +kernel) rfl⟩⟩
theorem kL_134 : zMl RL 134 mX10_goBack 1 0 := ⟨wX10_goBack, gm 117 (by decide +kernel) rfl, ⟨by decide +kernel, by decide +kernel⟩, by decide +kernel, Or.inl (gm 992 (by decide +kernel) rfl), ⟨gm 993 (by decide +kernel) rfl, gm 994 (by decide +kernel) rfl⟩⟩
theorem clL_10 : Cond.classLink RL 10 "GrudgeYardModel" ∈ lw_good := gm 996 (by decide +kernel) rfl
theorem nL_10 : zCl RL 10 11 := ⟨RX11, TX11, 36, tyX11, rfl, rfl, inX11g, tyX11_ok, dfX11, clL_10, gm 997 (by decide +kernel) rfl, gm 129 (by decide +kernel) rfl⟩
theorem kL_12 : zMl RL 12 mX11_init 0 2 := ⟨wX11_init, gm 129 (by decide +kernel) rfl, ⟨by decide +kernel, by decide +kernel⟩, by decide +kernel, Or.inl (gm 998 (by decide +kernel) rfl), ⟨gm 999 (by decide +kernel) rfl, rfl, rfl⟩⟩
theorem kX11_1 : Cond.methodLink RX11 1 Lib.objectInit ∈ lw_good := gm 1001 (by decide +kernel) rfl
theorem kX11_84 : zMl RX11 84 mX11_begins 0 0 := ⟨wX11_begins, gm 129 (by decide +kernel) rfl, ⟨by decide +kernel, by decide +kernel⟩, by decide +kernel, Or.inl (gm 1002 (by decide +kernel) rfl), ⟨gm 1004 (by decide +kernel) rfl, gm 83 (by decide +kernel) rfl⟩⟩
theorem kL_17 : zMl RL 17 mX11_feed 1 0 := ⟨wX11_feed, gm 129 (by decide +kernel) rfl, ⟨by decide +kernel, by decide +kernel⟩, by decide +kernel, Or.inl (gm 1116 (by decide +kernel) rfl), ⟨gm 1117 (by decide +kernel) rfl, gm 1118 (by decide +kernel) rfl⟩⟩
theorem kX11_101 : zMl RX11 101 mX11_in 3 1 := ⟨wX11_in, gm 129 (by decide +kernel) rfl, ⟨by decide +kernel, by decide +kernel⟩, by decide +kernel, Or.inl (gm 1121 (by decide +kernel) rfl), gm 1122 (by decide +kernel) rfl⟩
theorem kL_22 : zMl RL 22 mX11_yard 0 0 := ⟨wX11_yard, gm 129 (by decide +kernel) rfl, ⟨by decide +kernel, by decide +kernel⟩, by decide +kernel, Or.inl (gm 1126 (by decide +kernel) rfl), ⟨gm 1127 (by decide +kernel) rfl, gm 1128 (by decide +kernel) rfl⟩⟩
theorem kX11_136 : zMl RX11 136 mX11_step 0 0 := ⟨wX11_step, gm 129 (by decide +kernel) rfl, ⟨by decide +kernel, by decide +kernel⟩, by decide +kernel, Or.inl (gm 1130 (by decide +kernel) rfl), ⟨gm 1132 (by decide +kernel) rfl, gm 84 (by decide +kernel) rfl⟩⟩
theorem kX11_113 : zMl RX11 113 mX11_here 0 0 := ⟨wX11_here, gm 129 (by decide +kernel) rfl, ⟨by decide +kernel, by decide +kernel⟩, by decide +kernel, Or.inl (gm 1134 (by decide +kernel) rfl), ⟨gm 1136 (by decide +kernel) rfl, gm 85 (by decide +kernel) rfl⟩⟩
theorem kX11_167 : zMl RX11 167 mX11_readsClause 0 0 := ⟨wX11_readsClause, gm 129 (by decide +kernel) rfl, ⟨by decide +kernel, by decide +kernel⟩, by decide +kernel, Or.inl (gm 1140 (by decide +kernel) rfl), ⟨gm 1142 (by decide +kernel) rfl, gm 86 (by decide +kernel) rfl⟩⟩
theorem kX11_155 : zMl RX11 155 mX11_readsRoads 0 0 := ⟨wX11_readsRoads, gm 129 (by decide +kernel) rfl, ⟨by decide +kernel, by decide +kernel⟩, by decide +kernel, Or.inl (gm 1144 (by decide +kernel) rfl), ⟨gm 1146 (by decide +kernel) rfl, gm 87 (by decide +kernel) rfl⟩⟩
theorem kX11_139 : zMl RX11 139 mX11_fails 1 0 := ⟨wX11_fails, gm 129 (by decide +kernel) rfl, ⟨by decide +kernel, by decide +kernel⟩, by decide +kernel, Or.inl (gm 1148 (by decide +kernel) rfl), ⟨gm 1150 (by decide +kernel) rfl, gm 88 (by decide +kernel) rfl⟩⟩
theorem kX11_143 : zMl RX11 143 mX11_number 3 0 := ⟨wX11_number, gm 129 (by decide +kernel) rfl, ⟨by decide +kernel, by decide +kernel⟩, by decide +kernel, Or.inl (gm 1152 (by decide +kernel) rfl), ⟨gm 1154 (by decide +kernel) rfl, gm 89 (by decide +kernel) rfl⟩⟩
theorem kX11_158 : zMl RX11 158 mX11_readsWagon 0 0 := ⟨wX11_readsWagon, gm 129 (by decide +kernel) rfl, ⟨by decide +kernel, by decide +kernel⟩, by decide +kernel, Or.inl (gm 1156 (by decide +kernel) rfl), ⟨gm 1158 (by decide +kernel) rfl, gm 90 (by decide +kernel) rfl⟩⟩
theorem kX11_147 : zMl RX11 147 mX11_ends 0 0 := ⟨wX11_ends, gm 129 (by decide +kernel) rfl, ⟨by decide +kernel, by decide +kernel⟩, by decide +kernel, Or.inl (gm 1160 (by decide +kernel) rfl), ⟨gm 1162 (by decide +kernel) rfl, gm 91 (by decide +kernel) rfl⟩⟩
theorem kX11_161 : zMl RX11 161 mX11_readsEnemies 0 0 := ⟨wX11_readsEnemies, gm 129 (by decide +kernel) rfl, ⟨by decide +kernel, by decide +kernel⟩, by decide +kernel, Or.inl (gm 1164 (by decide +kernel) rfl), ⟨gm 1166 (by decide +kernel) rfl, gm 92 (by decide +kernel) rfl⟩⟩
theorem kX11_151 : zMl RX11 151 mX11_has 2 1 := ⟨wX11_has, gm 129 (by decide +kernel) rfl, ⟨by decide +kernel, by decide +kernel⟩, by decide +kernel, Or.inl (gm 1168 (by decide +kernel) rfl), gm 1169 (by decide +kernel) rfl⟩
theorem kX11_164 : zMl RX11 164 mX11_readsTrain 0 0 := ⟨wX11_readsTrain, gm 129 (by decide +kernel) rfl, ⟨by decide +kernel, by decide +kernel⟩, by decide +kernel, Or.inl (gm 1171 (by decide +kernel) rfl), ⟨gm 1173 (by decide +kernel) rfl, gm 93 (by decide +kernel) rfl⟩⟩
theorem kL_26 : zMl RL 26 mX11_fault 0 0 := ⟨wX11_fault, gm 129 (by decide +kernel) rfl, ⟨by decide +kernel, by decide +kernel⟩, by decide +kernel, Or.inl (gm 1175 (by decide +kernel) rfl), ⟨gm 1176 (by decide +kernel) rfl, gm 1177 (by decide +kernel) rfl⟩⟩
theorem kL_30 : zMl RL 30 mX11_told 1 0 := ⟨wX11_told, gm 129 (by decide +kernel) rfl, ⟨by decide +kernel, by decide +kernel⟩, by decide +kernel, Or.inl (gm 1179 (by decide +kernel) rfl), ⟨gm 1180 (by decide +kernel) rfl, gm 1181 (by decide +kernel) rfl⟩⟩
theorem kL_35 : zMl RL 35 mX11_wagon 2 0 := ⟨wX11_wagon, gm 129 (by decide +kernel) rfl, ⟨by decide +kernel, by decide +kernel⟩, by decide +kernel, Or.inl (gm 1183 (by decide +kernel) rfl), ⟨gm 1184 (by decide +kernel) rfl, gm 1185 (by decide +kernel) rfl⟩⟩
theorem kX11_176 : zMl RX11 176 mX11_isWagon 1 0 := ⟨wX11_isWagon, gm 129 (by decide +kernel) rfl, ⟨by decide +kernel, by decide +kernel⟩, by decide +kernel, Or.inl (gm 1187 (by decide +kernel) rfl), ⟨gm 1189 (by decide +kernel) rfl, gm 94 (by decide +kernel) rfl⟩⟩
theorem kX11_180 : zMl RX11 180 mX11_roadOf 1 0 := ⟨wX11_roadOf, gm 129 (by decide +kernel) rfl, ⟨by decide +kernel, by decide +kernel⟩, by decide +kernel, Or.inl (gm 1192 (by decide +kernel) rfl), ⟨gm 1194 (by decide +kernel) rfl, gm 95 (by decide +kernel) rfl⟩⟩
theorem kX11_172 : zMl RX11 172 mX11_placeOf 4 1 := ⟨wX11_placeOf, gm 129 (by decide +kernel) rfl, ⟨by decide +kernel, by decide +kernel⟩, by decide +kernel, Or.inl (gm 1196 (by decide +kernel) rfl), gm 1197 (by decide +kernel) rfl⟩
theorem kX11_184 : zMl RX11 184 mX11_speed 1 0 := ⟨wX11_speed, gm 129 (by decide +kernel) rfl, ⟨by decide +kernel, by decide +kernel⟩, by decide +kernel, Or.inl (gm 1199 (by decide +kernel) rfl), ⟨gm 1201 (by decide +kernel) rfl, gm 96 (by decide +kernel) rfl⟩⟩
theorem kL_39 : zMl RL 39 mX11_road 2 0 := ⟨wX11_road, gm 129 (by decide +kernel) rfl, ⟨by decide +kernel, by decide +kernel⟩, by decide +kernel, Or.inl (gm 1203 (by decide +kernel) rfl), ⟨gm 1204 (by decide +kernel) rfl, gm 1205 (by decide +kernel) rfl⟩⟩
theorem kX11_187 : zMl RX11 187 mX11_isRoad 1 0 := ⟨wX11_isRoad, gm 129 (by decide +kernel) rfl, ⟨by decide +kernel, by decide +kernel⟩, by decide +kernel, Or.inl (gm 1207 (by decide +kernel) rfl), ⟨gm 1209 (by decide +kernel) rfl, gm 97 (by decide +kernel) rfl⟩⟩
theorem kL_43 : zMl RL 43 mX11_at 2 0 := ⟨wX11_at, gm 129 (by decide +kernel) rfl, ⟨by decide +kernel, by decide +kernel⟩, by decide +kernel, Or.inl (gm 1211 (by decide +kernel) rfl), ⟨gm 1212 (by decide +kernel) rfl, gm 1213 (by decide +kernel) rfl⟩⟩
theorem kL_47 : zMl RL 47 mX11_enemies 2 0 := ⟨wX11_enemies, gm 129 (by decide +kernel) rfl, ⟨by decide +kernel, by decide +kernel⟩, by decide +kernel, Or.inl (gm 1215 (by decide +kernel) rfl), ⟨gm 1216 (by decide +kernel) rfl, gm 1217 (by decide +kernel) rfl⟩⟩
theorem kX11_190 : zMl RX11 190 mX11_isKind 1 1 := ⟨wX11_isKind, gm 129 (by decide +kernel) rfl, ⟨by decide +kernel, by decide +kernel⟩, by decide +kernel, Or.inl (gm 1219 (by decide +kernel) rfl), gm 1220 (by decide +kernel) rfl⟩
theorem kX11_193 : zMl RX11 193 mX11_areEnemies 2 0 := ⟨wX11_areEnemies, gm 129 (by decide +kernel) rfl, ⟨by decide +kernel, by decide +kernel⟩, by decide +kernel, Or.inl (gm 1223 (by decide +kernel) rfl), ⟨gm 1225 (by decide +kernel) rfl, gm 98 (by decide +kernel) rfl⟩⟩
theorem kL_51 : zMl RL 51 mX11_cut 2 0 := ⟨wX11_cut, gm 129 (by decide +kernel) rfl, ⟨by decide +kernel, by decide +kernel⟩, by decide +kernel, Or.inl (gm 1227 (by decide +kernel) rfl), ⟨gm 1228 (by decide +kernel) rfl, gm 1229 (by decide +kernel) rfl⟩⟩
theorem kX11_205 : zMl RX11 205 mX11_mayCut 2 0 := ⟨wX11_mayCut, gm 129 (by decide +kernel) rfl, ⟨by decide +kernel, by decide +kernel⟩, by decide +kernel, Or.inl (gm 1232 (by decide +kernel) rfl), ⟨gm 1234 (by decide +kernel) rfl, gm 99 (by decide +kernel) rfl⟩⟩
theorem kX11_209 : zMl RX11 209 mX11_remember 0 0 := ⟨wX11_remember, gm 129 (by decide +kernel) rfl, ⟨by decide +kernel, by decide +kernel⟩, by decide +kernel, Or.inl (gm 1237 (by decide +kernel) rfl), ⟨gm 1239 (by decide +kernel) rfl, gm 100 (by decide +kernel) rfl⟩⟩
theorem kX11_196 : zMl RX11 196 mX11_copies 4 1 := ⟨wX11_copies, gm 129 (by decide +kernel) rfl, ⟨by decide +kernel, by decide +kernel⟩, by decide +kernel, Or.inl (gm 1241 (by decide +kernel) rfl), gm 1242 (by decide +kernel) rfl⟩
theorem kX11_212 : zMl RX11 212 mX11_cuts 2 0 := ⟨wX11_cuts, gm 129 (by decide +kernel) rfl, ⟨by decide +kernel, by decide +kernel⟩, by decide +kernel, Or.inl (gm 1244 (by decide +kernel) rfl), ⟨gm 1246 (by decide +kernel) rfl, gm 101 (by decide +kernel) rfl⟩⟩
theorem kX11_200 : zMl RX11 200 mX11_kick 2 0 := ⟨wX11_kick, gm 129 (by decide +kernel) rfl, ⟨by decide +kernel, by decide +kernel⟩, by decide +kernel, Or.inl (gm 1248 (by decide +kernel) rfl), ⟨gm 1250 (by decide +kernel) rfl, gm 102 (by decide +kernel) rfl⟩⟩
theorem kL_55 : zMl RL 55 mX11_pull 1 0 := ⟨wX11_pull, gm 129 (by decide +kernel) rfl, ⟨by decide +kernel, by decide +kernel⟩, by decide +kernel, Or.inl (gm 1252 (by decide +kernel) rfl), ⟨gm 1253 (by decide +kernel) rfl, gm 1254 (by decide +kernel) rfl⟩⟩
theorem kX11_216 : zMl RX11 216 mX11_pulls 1 0 := ⟨wX11_pulls, gm 129 (by decide +kernel) rfl, ⟨by decide +kernel, by decide +kernel⟩, by decide +kernel, Or.inl (gm 1256 (by decide +kernel) rfl), ⟨gm 1258 (by decide +kernel) rfl, gm 103 (by decide +kernel) rfl⟩⟩
theorem kL_59 : zMl RL 59 mX11_peace 2 0 := ⟨wX11_peace, gm 129 (by decide +kernel) rfl, ⟨by decide +kernel, by decide +kernel⟩, by decide +kernel, Or.inl (gm 1260 (by decide +kernel) rfl), ⟨gm 1261 (by decide +kernel) rfl, gm 1262 (by decide +kernel) rfl⟩⟩
theorem kL_63 : zMl RL 63 mX11_drift 1 0 := ⟨wX11_drift, gm 129 (by decide +kernel) rfl, ⟨by decide +kernel, by decide +kernel⟩, by decide +kernel, Or.inl (gm 1264 (by decide +kernel) rfl), ⟨gm 1265 (by decide +kernel) rfl, gm 1266 (by decide +kernel) rfl⟩⟩
theorem kX11_234 : zMl RX11 234 mX11_draw 1 0 := ⟨wX11_draw, gm 129 (by decide +kernel) rfl, ⟨by decide +kernel, by decide +kernel⟩, by decide +kernel, Or.inl (gm 1270 (by decide +kernel) rfl), ⟨gm 1272 (by decide +kernel) rfl, gm 104 (by decide +kernel) rfl⟩⟩
theorem kL_67 : zMl RL 67 mX11_undo 0 0 := ⟨wX11_undo, gm 129 (by decide +kernel) rfl, ⟨by decide +kernel, by decide +kernel⟩, by decide +kernel, Or.inl (gm 1278 (by decide +kernel) rfl), ⟨gm 1279 (by decide +kernel) rfl, gm 1280 (by decide +kernel) rfl⟩⟩
theorem kL_71 : zMl RL 71 mX11_plan 1 0 := ⟨wX11_plan, gm 129 (by decide +kernel) rfl, ⟨by decide +kernel, by decide +kernel⟩, by decide +kernel, Or.inl (gm 1282 (by decide +kernel) rfl), ⟨gm 1283 (by decide +kernel) rfl, gm 1284 (by decide +kernel) rfl⟩⟩
theorem kX11_241 : zMl RX11 241 mX11_codes 0 0 := ⟨wX11_codes, gm 129 (by decide +kernel) rfl, ⟨by decide +kernel, by decide +kernel⟩, by decide +kernel, Or.inl (gm 1287 (by decide +kernel) rfl), ⟨gm 1289 (by decide +kernel) rfl, gm 105 (by decide +kernel) rfl⟩⟩
theorem kX11_244 : zMl RX11 244 mX11_layRow 3 0 := ⟨wX11_layRow, gm 129 (by decide +kernel) rfl, ⟨by decide +kernel, by decide +kernel⟩, by decide +kernel, Or.inl (gm 1291 (by decide +kernel) rfl), ⟨gm 1293 (by decide +kernel) rfl, gm 106 (by decide +kernel) rfl⟩⟩
theorem kX11_248 : zMl RX11 248 mX11_costs 0 0 := ⟨wX11_costs, gm 129 (by decide +kernel) rfl, ⟨by decide +kernel, by decide +kernel⟩, by decide +kernel, Or.inl (gm 1295 (by decide +kernel) rfl), ⟨gm 1297 (by decide +kernel) rfl, gm 107 (by decide +kernel) rfl⟩⟩
theorem kX11_237 : zMl RX11 237 mX11_layRoads 0 0 := ⟨wX11_layRoads, gm 129 (by decide +kernel) rfl, ⟨by decide +kernel, by decide +kernel⟩, by decide +kernel, Or.inl (gm 1299 (by decide +kernel) rfl), ⟨gm 1301 (by decide +kernel) rfl, gm 108 (by decide +kernel) rfl⟩⟩
theorem kL_75 : zMl RL 75 mX11_leastRoads 1 0 := ⟨wX11_leastRoads, gm 129 (by decide +kernel) rfl, ⟨by decide +kernel, by decide +kernel⟩, by decide +kernel, Or.inl (gm 1303 (by decide +kernel) rfl), ⟨gm 1304 (by decide +kernel) rfl, gm 1305 (by decide +kernel) rfl⟩⟩
theorem kX11_251 : zMl RX11 251 mX11_layTrain 0 0 := ⟨wX11_layTrain, gm 129 (by decide +kernel) rfl, ⟨by decide +kernel, by decide +kernel⟩, by decide +kernel, Or.inl (gm 1307 (by decide +kernel) rfl), ⟨gm 1309 (by decide +kernel) rfl, gm 109 (by decide +kernel) rfl⟩⟩
theorem kX11_254 : zMl RX11 254 mX11_draws 0 0 := ⟨wX11_draws, gm 129 (by decide +kernel) rfl, ⟨by decide +kernel, by decide +kernel⟩, by decide +kernel, Or.inl (gm 1311 (by decide +kernel) rfl), ⟨gm 1313 (by decide +kernel) rfl, gm 110 (by decide +kernel) rfl⟩⟩
theorem kL_80 : zMl RL 80 mX11_safe 3 0 := ⟨wX11_safe, gm 129 (by decide +kernel) rfl, ⟨by decide +kernel, by decide +kernel⟩, by decide +kernel, Or.inl (gm 1315 (by decide +kernel) rfl), ⟨gm 1316 (by decide +kernel) rfl, gm 1317 (by decide +kernel) rfl⟩⟩
theorem kL_84 : zMl RL 84 mX11_foremen 1 0 := ⟨wX11_foremen, gm 129 (by decide +kernel) rfl, ⟨by decide +kernel, by decide +kernel⟩, by decide +kernel, Or.inl (gm 1320 (by decide +kernel) rfl), ⟨gm 1321 (by decide +kernel) rfl, gm 1322 (by decide +kernel) rfl⟩⟩
theorem kX11_259 : zMl RX11 259 mX11_beginsStep 1 0 := ⟨wX11_beginsStep, gm 129 (by decide +kernel) rfl, ⟨by decide +kernel, by decide +kernel⟩, by decide +kernel, Or.inl (gm 1324 (by decide +kernel) rfl), ⟨gm 1326 (by decide +kernel) rfl, gm 111 (by decide +kernel) rfl⟩⟩
theorem kX11_263 : zMl RX11 263 mX11_weighs 2 0 := ⟨wX11_weighs, gm 129 (by decide +kernel) rfl, ⟨by decide +kernel, by decide +kernel⟩, by decide +kernel, Or.inl (gm 1328 (by decide +kernel) rfl), ⟨gm 1330 (by decide +kernel) rfl, gm 112 (by decide +kernel) rfl⟩⟩
theorem kX11_267 : zMl RX11 267 mX11_goes 1 0 := ⟨wX11_goes, gm 129 (by decide +kernel) rfl, ⟨by decide +kernel, by decide +kernel⟩, by decide +kernel, Or.inl (gm 1332 (by decide +kernel) rfl), ⟨gm 1334 (by decide +kernel) rfl, gm 113 (by decide +kernel) rfl⟩⟩
theorem kL_88 : zMl RL 88 mX11_fewest 1 0 := ⟨wX11_fewest, gm 129 (by decide +kernel) rfl, ⟨by decide +kernel, by decide +kernel⟩, by decide +kernel, Or.inl (gm 1336 (by decide +kernel) rfl), ⟨gm 1337 (by decide +kernel) rfl, gm 1338 (by decide +kernel) rfl⟩⟩
theorem kL_92 : zMl RL 92 mX11_rusted 2 0 := ⟨wX11_rusted, gm 129 (by decide +kernel) rfl, ⟨by decide +kernel, by decide +kernel⟩, by decide +kernel, Or.inl (gm 1340 (by decide +kernel) rfl), ⟨gm 1341 (by decide +kernel) rfl, gm 1342 (by decide +kernel) rfl⟩⟩
theorem kL_97 : zMl RL 97 mX11_couple 3 0 := ⟨wX11_couple, gm 129 (by decide +kernel) rfl, ⟨by decide +kernel, by decide +kernel⟩, by decide +kernel, Or.inl (gm 1346 (by decide +kernel) rfl), ⟨gm 1347 (by decide +kernel) rfl, gm 1348 (by decide +kernel) rfl⟩⟩
theorem kL_101 : zMl RL 101 mX11_laws 1 0 := ⟨wX11_laws, gm 129 (by decide +kernel) rfl, ⟨by decide +kernel, by decide +kernel⟩, by decide +kernel, Or.inl (gm 1350 (by decide +kernel) rfl), ⟨gm 1351 (by decide +kernel) rfl, gm 1352 (by decide +kernel) rfl⟩⟩
theorem kX11_278 : zMl RX11 278 mX11_triedOf 2 0 := ⟨wX11_triedOf, gm 129 (by decide +kernel) rfl, ⟨by decide +kernel, by decide +kernel⟩, by decide +kernel, Or.inl (gm 1356 (by decide +kernel) rfl), ⟨gm 1358 (by decide +kernel) rfl, gm 114 (by decide +kernel) rfl⟩⟩
theorem kL_105 : zMl RL 105 mX11_next 0 0 := ⟨wX11_next, gm 129 (by decide +kernel) rfl, ⟨by decide +kernel, by decide +kernel⟩, by decide +kernel, Or.inl (gm 1360 (by decide +kernel) rfl), ⟨gm 1361 (by decide +kernel) rfl, gm 1362 (by decide +kernel) rfl⟩⟩
theorem kL_109 : zMl RL 109 mX11_chalk 3 0 := ⟨wX11_chalk, gm 129 (by decide +kernel) rfl, ⟨by decide +kernel, by decide +kernel⟩, by decide +kernel, Or.inl (gm 1364 (by decide +kernel) rfl), ⟨gm 1365 (by decide +kernel) rfl, gm 1366 (by decide +kernel) rfl⟩⟩
theorem kL_113 : zMl RL 113 mX11_fit 1 0 := ⟨wX11_fit, gm 129 (by decide +kernel) rfl, ⟨by decide +kernel, by decide +kernel⟩, by decide +kernel, Or.inl (gm 1369 (by decide +kernel) rfl), ⟨gm 1370 (by decide +kernel) rfl, gm 1371 (by decide +kernel) rfl⟩⟩
theorem kX11_283 : zMl RX11 283 mX11_fits 0 0 := ⟨wX11_fits, gm 129 (by decide +kernel) rfl, ⟨by decide +kernel, by decide +kernel⟩, by decide +kernel, Or.inl (gm 1373 (by decide +kernel) rfl), ⟨gm 1375 (by decide +kernel) rfl, gm 115 (by decide +kernel) rfl⟩⟩
theorem kL_117 : zMl RL 117 mX11_write 3 0 := ⟨wX11_write, gm 129 (by decide +kernel) rfl, ⟨by decide +kernel, by decide +kernel⟩, by decide +kernel, Or.inl (gm 1377 (by decide +kernel) rfl), ⟨gm 1378 (by decide +kernel) rfl, gm 1379 (by decide +kernel) rfl⟩⟩
theorem kL_121 : zMl RL 121 mX11_tear 0 0 := ⟨wX11_tear, gm 129 (by decide +kernel) rfl, ⟨by decide +kernel, by decide +kernel⟩, by decide +kernel, Or.inl (gm 1381 (by decide +kernel) rfl), ⟨gm 1382 (by decide +kernel) rfl, gm 1383 (by decide +kernel) rfl⟩⟩
theorem kL_125 : zMl RL 125 mX11_judge 0 0 := ⟨wX11_judge, gm 129 (by decide +kernel) rfl, ⟨by decide +kernel, by decide +kernel⟩, by decide +kernel, Or.inl (gm 1385 (by decide +kernel) rfl), ⟨gm 1386 (by decide +kernel) rfl, gm 1387 (by decide +kernel) rfl⟩⟩
theorem kX11_286 : zMl RX11 286 mX11_at 2 0 := ⟨wX11_at, gm 129 (by decide +kernel) rfl, ⟨by decide +kernel, by decide +kernel⟩, by decide +kernel, Or.inl (gm 1389 (by decide +kernel) rfl), ⟨gm 1212 (by decide +kernel) rfl, gm 1213 (by decide +kernel) rfl⟩⟩
theorem kL_129 : zMl RL 129 mX11_seed 1 0 := ⟨wX11_seed, gm 129 (by decide +kernel) rfl, ⟨by decide +kernel, by decide +kernel⟩, by decide +kernel, Or.inl (gm 1390 (by decide +kernel) rfl), ⟨gm 1391 (by decide +kernel) rfl, gm 1392 (by decide +kernel) rfl⟩⟩
theorem kL_133 : zMl RL 133 mX11_keep 1 0 := ⟨wX11_keep, gm 129 (by decide +kernel) rfl, ⟨by decide +kernel, by decide +kernel⟩, by decide +kernel, Or.inl (gm 1394 (by decide +kernel) rfl), ⟨gm 1395 (by decide +kernel) rfl, gm 1396 (by decide +kernel) rfl⟩⟩
theorem kL_137 : zMl RL 137 mX11_goBack 1 0 := ⟨wX11_goBack, gm 129 (by decide +kernel) rfl, ⟨by decide +kernel, by decide +kernel⟩, by decide +kernel, Or.inl (gm 1398 (by decide +kernel) rfl), ⟨gm 1399 (by decide +kernel) rfl, gm 1400 (by decide +kernel) rfl⟩⟩
