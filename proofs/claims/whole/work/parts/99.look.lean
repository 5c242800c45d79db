theorem look_1 : 1 = 1 := rfl
