def l_s18r : Bool := match m_tA 18 20000 800 274 0 [(0, .retAddr 0)] [] [] with
  | some q => b_all zZ.1 zZ.2.2 q && b_RI zPF zPA q.2.2
  | none => false
theorem l_s18_t : l_s18r = true := by decide +kernel
theorem lk_t : lk2 zZ zT zPF zPA zPS 3000 27 [] (0, 0) none = true := by decide +kernel
