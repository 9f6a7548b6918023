set_option maxRecDepth 100000 in
theorem sq_c_sample_2 : sq_G 4 [(0, .retAddr 0), (1, .int 2), (2, .retAddr 2), (3, .retAddr 3)] [(1, .retAddr 0, .int 15, .int 2)] := by decide +kernel
set_option maxRecDepth 100000 in
theorem sq_c_compile : sq_G 4 [(0, .retAddr 0), (1, .retAddr 1), (2, .retAddr 2), (3, .retAddr 3)] [(1, .retAddr 0, .int 15, .int 3)] := by decide +kernel
