theorem wOK_r (ws : List Cond) (ps : List Nat) (hp : ws = ps.filterMap (fun i => lw_tbl[i]?)) (h : ws.all goodWord = true) : ∀ w ∈ ws, wOK w := by
  intro w hw
  have h1 := List.all_eq_true.mp h w hw
  rw [hp] at hw
  obtain ⟨i, -, hi⟩ := List.mem_filterMap.mp hw
  exact ⟨List.mem_of_getElem? hi, h1⟩
theorem wOK_1 {w : Cond} (i : Nat) (h : lw_tbl[i]? = some w) (h1 : goodWord w = true) : wOK w := ⟨List.mem_of_getElem? h, h1⟩
set_option maxRecDepth 100000 in
theorem wC_0 : ∀ w ∈ u_ws RX0 TX0 7, wOK w := wOK_r _ [201, 203, 205, 207, 209, 211, 213] (by decide +kernel) (by decide +kernel)
set_option maxRecDepth 100000 in
theorem wC_1 : ∀ w ∈ u_ws RX1 TX1 8, wOK w := wOK_r _ [298, 300, 302, 304, 306, 308, 310, 312] (by decide +kernel) (by decide +kernel)
set_option maxRecDepth 100000 in
theorem wC_2 : ∀ w ∈ u_ws RX2 TX2 5, wOK w := wOK_r _ [349, 351, 353, 355, 357] (by decide +kernel) (by decide +kernel)
set_option maxRecDepth 100000 in
theorem wC_3 : ∀ w ∈ u_ws RX3 TX3 10, wOK w := wOK_r _ [237, 239, 241, 243, 245, 247, 249, 251, 253, 255] (by decide +kernel) (by decide +kernel)
set_option maxRecDepth 100000 in
theorem wC_4 : ∀ w ∈ u_ws RX4 TX4 14, wOK w := wOK_r _ [162, 164, 166, 168, 170, 172, 174, 176, 178, 180, 182, 184, 186, 188] (by decide +kernel) (by decide +kernel)
set_option maxRecDepth 100000 in
theorem wC_5 : ∀ w ∈ u_ws RX5 TX5 4, wOK w := wOK_r _ [327, 329, 331, 333] (by decide +kernel) (by decide +kernel)
set_option maxRecDepth 100000 in
theorem wC_6 : ∀ w ∈ u_ws RX6 TX6 5, wOK w := wOK_r _ [367, 369, 371, 373, 375] (by decide +kernel) (by decide +kernel)
set_option maxRecDepth 100000 in
theorem wC_7 : ∀ w ∈ u_ws RX7 TX7 42, wOK w := wOK_r _ [1096, 1098, 1100, 1102, 1104, 1106, 1108, 1110, 1112, 1114, 1116, 1118, 1120, 1122, 1124, 1126, 1128, 1130, 1132, 1134, 1136, 1138, 1140, 1142, 1144, 1146, 1148, 1150, 1152, 1154, 1156, 1158, 1160, 1162, 1164, 1166, 1168, 1170, 1172, 1174, 1176, 1178] (by decide +kernel) (by decide +kernel)
