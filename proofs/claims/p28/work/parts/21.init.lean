theorem lw_h : (m_run 0 (fun _ => 0) 6000 20 47 0 [(0, .ref 0)] [] [.inr (5, [.null, .null, .null, .int 0])]).isSome = true := by decide +kernel
theorem lw_t18 : (m_to 0 (fun _ => 0) 18 20000 20 274 0 [(0, .retAddr 0)] [] []).isSome = true := by decide +kernel
