theorem wOK_r (ws : List Cond) (ps : List Nat) (hp : ws = ps.filterMap (fun i => lw_tbl[i]?)) (h : ws.all goodWord = true) : ∀ w ∈ ws, wOK w := by
  intro w hw
  have h1 := List.all_eq_true.mp h w hw
  rw [hp] at hw
  obtain ⟨i, -, hi⟩ := List.mem_filterMap.mp hw
  exact ⟨List.mem_of_getElem? hi, h1⟩
theorem wOK_1 {w : Cond} (i : Nat) (h : lw_tbl[i]? = some w) (h1 : goodWord w = true) : wOK w := ⟨List.mem_of_getElem? h, h1⟩
set_option maxRecDepth 100000 in
theorem wC_0 : ∀ w ∈ u_ws RX0 TX0 7, wOK w := wOK_r _ [151, 153, 155, 157, 159, 161, 163] (by decide +kernel) (by decide +kernel)
set_option maxRecDepth 100000 in
theorem wC_1 : ∀ w ∈ u_ws RX1 TX1 8, wOK w := wOK_r _ [248, 250, 252, 254, 256, 258, 260, 262] (by decide +kernel) (by decide +kernel)
set_option maxRecDepth 100000 in
theorem wC_2 : ∀ w ∈ u_ws RX2 TX2 5, wOK w := wOK_r _ [299, 301, 303, 305, 307] (by decide +kernel) (by decide +kernel)
set_option maxRecDepth 100000 in
theorem wC_3 : ∀ w ∈ u_ws RX3 TX3 10, wOK w := wOK_r _ [187, 189, 191, 193, 195, 197, 199, 201, 203, 205] (by decide +kernel) (by decide +kernel)
set_option maxRecDepth 100000 in
theorem wC_4 : ∀ w ∈ u_ws RX4 TX4 14, wOK w := wOK_r _ [112, 114, 116, 118, 120, 122, 124, 126, 128, 130, 132, 134, 136, 138] (by decide +kernel) (by decide +kernel)
set_option maxRecDepth 100000 in
theorem wC_5 : ∀ w ∈ u_ws RX5 TX5 4, wOK w := wOK_r _ [277, 279, 281, 283] (by decide +kernel) (by decide +kernel)
set_option maxRecDepth 100000 in
theorem wC_6 : ∀ w ∈ u_ws RX6 TX6 5, wOK w := wOK_r _ [317, 319, 321, 323, 325] (by decide +kernel) (by decide +kernel)
