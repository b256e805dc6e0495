set_option maxRecDepth 1000000 in
theorem te_0 : (ai_x (ai_XX 0 (fun _ => 0)) 5000 9 350 ai_r143 0 (ai_en 4 [.ref ai_B]) [] [] 0 0).map (fun o => (o.2.1, o.2.2.2)) = some (some (.int 1), 74, 2000) := by decide +kernel
set_option maxRecDepth 1000000 in
theorem te_1 : (ai_x (ai_XX 6 (fun _ => 5)) 5000 9 350 ai_r143 0 (ai_en 4 [.ref ai_B]) [] [] 0 0).map (fun o => (o.2.1)) = some (some (.int 1)) := by decide +kernel
