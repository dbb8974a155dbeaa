theorem z_bl_0 : z_bl 0 5 0 = [63, 63, 63, 63, 9] := by decide
theorem z_bl_1 : z_bl 1 1 0 = [23] := by decide
theorem z_bl_2 : z_bl 2 2 0 = [23, 9] := by decide
theorem z_bl_3 : z_bl 3 2 0 = [-1, -1] := by decide
