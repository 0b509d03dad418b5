theorem le_some2 {α : Type} {v : α} {h : Hp} {o : α × Hp} (hE : some (v, h) = some o) : Le h o.2 := by
  have e := Option.some.inj hE
  rw [← e]
  exact Le.rf _
theorem le_some1 {h o : Hp} (hE : some h = some o) : Le h o := by
  have e := Option.some.inj hE
  rw [← e]
  exact Le.rf _
