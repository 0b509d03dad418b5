theorem cl_in15 : ∀ w ∈ u_ws RX15 TX15 71, w ∈ tables_1 := fun w hw => by
  rw [← List.take_append_drop 14 (u_ws RX15 TX15 71)] at hw
  rcases List.mem_append.mp hw with hw | hw
  · exact cl_c0 w hw
  rw [← List.take_append_drop 14 ((u_ws RX15 TX15 71).drop 14)] at hw
  rcases List.mem_append.mp hw with hw | hw
  · exact cl_c1 w hw
  rw [List.drop_drop] at hw
  rw [← List.take_append_drop 14 ((u_ws RX15 TX15 71).drop 28)] at hw
  rcases List.mem_append.mp hw with hw | hw
  · exact cl_c2 w hw
  rw [List.drop_drop] at hw
  rw [← List.take_append_drop 14 ((u_ws RX15 TX15 71).drop 42)] at hw
  rcases List.mem_append.mp hw with hw | hw
  · exact cl_c3 w hw
  rw [List.drop_drop] at hw
  rw [← List.take_append_drop 14 ((u_ws RX15 TX15 71).drop 56)] at hw
  rcases List.mem_append.mp hw with hw | hw
  · exact cl_c4 w hw
  exact cl_c5 w (by rw [List.drop_drop] at hw; exact hw)
