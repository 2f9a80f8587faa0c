section YINI2
theorem ik_e0 : iniK (fun h => (List.range 80).all (fun i => decide (h.1 16 (0 + i) = nI ((0 + i) % 8)))) = true := by decide +kernel
theorem ik_e1 : iniK (fun h => (List.range 80).all (fun i => decide (h.1 16 (80 + i) = nI ((80 + i) % 8)))) = true := by decide +kernel
theorem ik_e2 : iniK (fun h => (List.range 80).all (fun i => decide (h.1 16 (160 + i) = nI ((160 + i) % 8)))) = true := by decide +kernel
theorem ik_e3 : iniK (fun h => (List.range 80).all (fun i => decide (h.1 16 (240 + i) = nI ((240 + i) % 8)))) = true := by decide +kernel
end YINI2
