section YINI3
theorem ik_f0 : iniK (fun h => (List.range 120).all (fun i => decide (h.1 157 (0 + i) = nI (plT (0 + i))))) = true := by decide +kernel
theorem ik_f1 : iniK (fun h => (List.range 120).all (fun i => decide (h.1 157 (120 + i) = nI (plT (120 + i))))) = true := by decide +kernel
theorem ik_f2 : iniK (fun h => (List.range 120).all (fun i => decide (h.1 157 (240 + i) = nI (plT (240 + i))))) = true := by decide +kernel
theorem ik_f3 : iniK (fun h => (List.range 120).all (fun i => decide (h.1 157 (360 + i) = nI (plT (360 + i))))) = true := by decide +kernel
theorem ik_f4 : iniK (fun h => (List.range 120).all (fun i => decide (h.1 157 (480 + i) = nI (plT (480 + i))))) = true := by decide +kernel
theorem ik_f5 : iniK (fun h => (List.range 120).all (fun i => decide (h.1 157 (600 + i) = nI (plT (600 + i))))) = true := by decide +kernel
end YINI3
