/-! first, image, back: contracts by which nothing stays (printed by wip/chk/fib.py) -/
set_option maxRecDepth 1000000
def P39f : aP3 := (TT, [], IR9)
def P9f : aP := (TT, [], IR9, J9)
theorem J9_okf : pJ P9f := J9_ok
def fn_firstX : aN := (107, [.inl [0], .inr (.inl (.inr (0, 1, 0))), .inr (.inl (.inr (0, 1, 1))), .inr (.inl (.inr (0, 1, 2)))], [], [((-2147483648), 2147483647), ((-2147483648), 2147483647), ((-2147483648), 2147483647)], [], [(21, 3), (22, 1000), (23, 1000), (24, 1000)], [(some (.inr (.inl (.inr (0, 1, 3)))), [], [((-2147483648), 2147483647), ((-2147483648), 2147483647), ((-2147483648), 2147483647), ((-2), 20)], [])])
theorem fk_firstX : chkM P39f (mkQ P39f fn_firstX.2.2.2.2.2.1 [] 3000 2) fn_firstX (.inl 0, .inl 0, .inl 0) [] 3000 = true := by decide +kernel
theorem ft_firstX : Con P9f 3 fn_firstX := con_of J9_okf (d := 0) (n := 2) (fun _ hc => by cases hc) fk_firstX
def fn_firstM : aN := (174, [.inl [170], .inr (.inl (.inr (0, 1, 0))), .inr (.inl (.inr (0, 1, 1))), .inr (.inl (.inr (0, 1, 2)))], [], [((-2147483648), 2147483647), ((-2147483648), 2147483647), ((-2147483648), 2147483647)], [], [(183, 1000)], [(some (.inr (.inl (.inr (0, 1, 3)))), [], [((-2147483648), 2147483647), ((-2147483648), 2147483647), ((-2147483648), 2147483647), ((-2), 20)], [])])
theorem fk_firstM : chkM P39f (mkQ P39f fn_firstM.2.2.2.2.2.1 [] 3000 2) fn_firstM (.inl 0, .inl 0, .inl 0) [] 3000 = true := by decide +kernel
theorem ft_firstM : Con P9f 3 fn_firstM := con_of J9_okf (d := 0) (n := 2) (fun _ hc => by cases hc) fk_firstM
def fn_imageX0 : aN := (113, [.inl [0], .inr (.inl (.inl 0))], [(21, 3, .inr (.inl (.inr (0, 1, 0))))], [(0, 20), (0, 1), (0, 1), (0, 1), (0, 1)], [.inr (.inr (.inl (78, 0, .inr (0, 1, 1)))), .inr (.inr (.inl (78, 1, .inr (0, 1, 2)))), .inr (.inr (.inl (78, 2, .inr (0, 1, 3)))), .inr (.inr (.inl (78, 3, .inr (0, 1, 4))))], [(26, 2), (26, 3), (26, 4), (27, 4), (27, 5), (28, 1000), (29, 1000), (30, 1000), (31, 3), (32, 1000), (33, 1000), (34, 1000), (35, 3), (36, 1000), (37, 1000), (38, 1000), (78, 1000)], [(some (.inr (.inl (.inr (0, 1, 5)))), [(21, 3, .inr (.inl (.inr (0, 1, 0)))), (35, 3, .inr (.inl (.inr (0, 1, 0))))], [(0, 20), (0, 1), (0, 1), (0, 1), (0, 1), (0, 30)], [.inr (.inr (.inl (78, 0, .inl 1))), .inr (.inr (.inl (78, 1, .inr (0, 1, 2)))), .inr (.inr (.inl (78, 2, .inr (0, 1, 3)))), .inr (.inr (.inl (78, 3, .inr (0, 1, 4))))])])
theorem fk_imageX0 : chkM P39f (mkQ P39f fn_imageX0.2.2.2.2.2.1 [] 3000 3) fn_imageX0 (.inl 0, .inl 0, .inl 0) [] 3000 = true := by decide +kernel
theorem ft_imageX0 : Con P9f 4 fn_imageX0 := con_of J9_okf (d := 0) (n := 3) (fun _ hc => by cases hc) fk_imageX0
def fn_imageX1 : aN := (113, [.inl [0], .inr (.inl (.inl 1))], [(21, 3, .inr (.inl (.inr (0, 1, 0))))], [(0, 20), (0, 1), (0, 1), (0, 1), (0, 1)], [.inr (.inr (.inl (78, 0, .inr (0, 1, 1)))), .inr (.inr (.inl (78, 1, .inr (0, 1, 2)))), .inr (.inr (.inl (78, 2, .inr (0, 1, 3)))), .inr (.inr (.inl (78, 3, .inr (0, 1, 4))))], [(39, 2), (39, 3), (39, 4), (40, 4), (40, 5), (41, 1000), (42, 1000), (43, 1000), (44, 3), (45, 1000), (46, 1000), (47, 1000), (48, 3), (49, 1000), (50, 1000), (51, 1000), (78, 1000)], [(some (.inr (.inl (.inr (0, 1, 5)))), [(21, 3, .inr (.inl (.inr (0, 1, 0)))), (48, 3, .inr (.inl (.inr (0, 1, 0))))], [(0, 20), (0, 1), (0, 1), (0, 1), (0, 1), (0, 30)], [.inr (.inr (.inl (78, 0, .inr (0, 1, 1)))), .inr (.inr (.inl (78, 1, .inl 1))), .inr (.inr (.inl (78, 2, .inr (0, 1, 3)))), .inr (.inr (.inl (78, 3, .inr (0, 1, 4))))])])
theorem fk_imageX1 : chkM P39f (mkQ P39f fn_imageX1.2.2.2.2.2.1 [] 3000 3) fn_imageX1 (.inl 0, .inl 0, .inl 0) [] 3000 = true := by decide +kernel
theorem ft_imageX1 : Con P9f 4 fn_imageX1 := con_of J9_okf (d := 0) (n := 3) (fun _ hc => by cases hc) fk_imageX1
def fn_imageX2 : aN := (113, [.inl [0], .inr (.inl (.inl 2))], [(21, 3, .inr (.inl (.inr (0, 1, 0))))], [(0, 20), (0, 1), (0, 1), (0, 1), (0, 1)], [.inr (.inr (.inl (78, 0, .inr (0, 1, 1)))), .inr (.inr (.inl (78, 1, .inr (0, 1, 2)))), .inr (.inr (.inl (78, 2, .inr (0, 1, 3)))), .inr (.inr (.inl (78, 3, .inr (0, 1, 4))))], [(52, 2), (52, 3), (52, 4), (53, 4), (53, 5), (54, 1000), (55, 1000), (56, 1000), (57, 3), (58, 1000), (59, 1000), (60, 1000), (61, 3), (62, 1000), (63, 1000), (64, 1000), (78, 1000)], [(some (.inr (.inl (.inr (0, 1, 5)))), [(21, 3, .inr (.inl (.inr (0, 1, 0)))), (61, 3, .inr (.inl (.inr (0, 1, 0))))], [(0, 20), (0, 1), (0, 1), (0, 1), (0, 1), (0, 30)], [.inr (.inr (.inl (78, 0, .inr (0, 1, 1)))), .inr (.inr (.inl (78, 1, .inr (0, 1, 2)))), .inr (.inr (.inl (78, 2, .inl 1))), .inr (.inr (.inl (78, 3, .inr (0, 1, 4))))])])
theorem fk_imageX2 : chkM P39f (mkQ P39f fn_imageX2.2.2.2.2.2.1 [] 3000 3) fn_imageX2 (.inl 0, .inl 0, .inl 0) [] 3000 = true := by decide +kernel
theorem ft_imageX2 : Con P9f 4 fn_imageX2 := con_of J9_okf (d := 0) (n := 3) (fun _ hc => by cases hc) fk_imageX2
def fn_imageX3 : aN := (113, [.inl [0], .inr (.inl (.inl 3))], [(21, 3, .inr (.inl (.inr (0, 1, 0))))], [(0, 20), (0, 1), (0, 1), (0, 1), (0, 1)], [.inr (.inr (.inl (78, 0, .inr (0, 1, 1)))), .inr (.inr (.inl (78, 1, .inr (0, 1, 2)))), .inr (.inr (.inl (78, 2, .inr (0, 1, 3)))), .inr (.inr (.inl (78, 3, .inr (0, 1, 4))))], [(65, 2), (65, 3), (65, 4), (66, 4), (66, 5), (67, 1000), (68, 1000), (69, 1000), (70, 3), (71, 1000), (72, 1000), (73, 1000), (74, 3), (75, 1000), (76, 1000), (77, 1000), (78, 1000)], [(some (.inr (.inl (.inr (0, 1, 5)))), [(21, 3, .inr (.inl (.inr (0, 1, 0)))), (74, 3, .inr (.inl (.inr (0, 1, 0))))], [(0, 20), (0, 1), (0, 1), (0, 1), (0, 1), (0, 30)], [.inr (.inr (.inl (78, 0, .inr (0, 1, 1)))), .inr (.inr (.inl (78, 1, .inr (0, 1, 2)))), .inr (.inr (.inl (78, 2, .inr (0, 1, 3)))), .inr (.inr (.inl (78, 3, .inl 1)))])])
theorem fk_imageX3 : chkM P39f (mkQ P39f fn_imageX3.2.2.2.2.2.1 [] 3000 3) fn_imageX3 (.inl 0, .inl 0, .inl 0) [] 3000 = true := by decide +kernel
theorem ft_imageX3 : Con P9f 4 fn_imageX3 := con_of J9_okf (d := 0) (n := 3) (fun _ hc => by cases hc) fk_imageX3
def fn_imageXn : aN := (113, [.inl [0], .inr (.inl (.inr (0, 1, 0)))], [], [((-2147483648), (-1))], [], [], [(some (.inr (.inl (.inl (-1)))), [], [((-2147483648), (-1))], [])])
theorem fk_imageXn : chkM P39f (mkQ P39f fn_imageXn.2.2.2.2.2.1 [] 3000 0) fn_imageXn (.inl 0, .inl 0, .inl 0) [] 3000 = true := by decide +kernel
theorem ft_imageXn : Con P9f 1 fn_imageXn := con_of J9_okf (d := 0) (n := 0) (fun _ hc => by cases hc) fk_imageXn
def fn_imageXp : aN := (113, [.inl [0], .inr (.inl (.inr (0, 1, 0)))], [], [(4, 2147483647)], [], [], [(some (.inr (.inl (.inl (-1)))), [], [(4, 2147483647)], [])])
theorem fk_imageXp : chkM P39f (mkQ P39f fn_imageXp.2.2.2.2.2.1 [] 3000 0) fn_imageXp (.inl 0, .inl 0, .inl 0) [] 3000 = true := by decide +kernel
theorem ft_imageXp : Con P9f 1 fn_imageXp := con_of J9_okf (d := 0) (n := 0) (fun _ hc => by cases hc) fk_imageXp
def fn_backX00 : aN := (97, [.inl [0], .inr (.inl (.inl 0))], [], [], [.inr (.inr (.inl (78, 0, .inl 0)))], [], [(some (.inr (.inl (.inl (-1)))), [], [], [])])
theorem fk_backX00 : chkM P39f (mkQ P39f fn_backX00.2.2.2.2.2.1 [] 3000 0) fn_backX00 (.inl 0, .inl 0, .inl 0) [] 3000 = true := by decide +kernel
theorem ft_backX00 : Con P9f 1 fn_backX00 := con_of J9_okf (d := 0) (n := 0) (fun _ hc => by cases hc) fk_backX00
def fn_backX01 : aN := (97, [.inl [0], .inr (.inl (.inl 0))], [(35, 3, .inr (.inl (.inr (0, 1, 0))))], [(0, 20)], [.inr (.inr (.inl (78, 0, .inl 1)))], [(12, 2), (12, 3), (12, 4), (13, 4), (13, 5), (14, 1000), (15, 1000), (16, 1000), (17, 3), (18, 1000), (19, 1000), (20, 1000), (21, 3), (22, 1000), (23, 1000), (24, 1000)], [(some (.inr (.inl (.inr (0, 1, 1)))), [(21, 3, .inr (.inl (.inr (0, 1, 0)))), (35, 3, .inr (.inl (.inr (0, 1, 0))))], [(0, 20), (0, 30)], [])])
theorem fk_backX01 : chkM P39f (mkQ P39f fn_backX01.2.2.2.2.2.1 [] 3000 3) fn_backX01 (.inl 0, .inl 0, .inl 0) [] 3000 = true := by decide +kernel
theorem ft_backX01 : Con P9f 4 fn_backX01 := con_of J9_okf (d := 0) (n := 3) (fun _ hc => by cases hc) fk_backX01
def fn_backX10 : aN := (97, [.inl [0], .inr (.inl (.inl 1))], [], [], [.inr (.inr (.inl (78, 1, .inl 0)))], [], [(some (.inr (.inl (.inl (-1)))), [], [], [])])
theorem fk_backX10 : chkM P39f (mkQ P39f fn_backX10.2.2.2.2.2.1 [] 3000 0) fn_backX10 (.inl 0, .inl 0, .inl 0) [] 3000 = true := by decide +kernel
theorem ft_backX10 : Con P9f 1 fn_backX10 := con_of J9_okf (d := 0) (n := 0) (fun _ hc => by cases hc) fk_backX10
def fn_backX11 : aN := (97, [.inl [0], .inr (.inl (.inl 1))], [(48, 3, .inr (.inl (.inr (0, 1, 0))))], [(0, 20)], [.inr (.inr (.inl (78, 1, .inl 1)))], [(12, 2), (12, 3), (12, 4), (13, 4), (13, 5), (14, 1000), (15, 1000), (16, 1000), (17, 3), (18, 1000), (19, 1000), (20, 1000), (21, 3), (22, 1000), (23, 1000), (24, 1000)], [(some (.inr (.inl (.inr (0, 1, 1)))), [(21, 3, .inr (.inl (.inr (0, 1, 0)))), (48, 3, .inr (.inl (.inr (0, 1, 0))))], [(0, 20), (0, 30)], [])])
theorem fk_backX11 : chkM P39f (mkQ P39f fn_backX11.2.2.2.2.2.1 [] 3000 3) fn_backX11 (.inl 0, .inl 0, .inl 0) [] 3000 = true := by decide +kernel
theorem ft_backX11 : Con P9f 4 fn_backX11 := con_of J9_okf (d := 0) (n := 3) (fun _ hc => by cases hc) fk_backX11
def fn_backX20 : aN := (97, [.inl [0], .inr (.inl (.inl 2))], [], [], [.inr (.inr (.inl (78, 2, .inl 0)))], [], [(some (.inr (.inl (.inl (-1)))), [], [], [])])
theorem fk_backX20 : chkM P39f (mkQ P39f fn_backX20.2.2.2.2.2.1 [] 3000 0) fn_backX20 (.inl 0, .inl 0, .inl 0) [] 3000 = true := by decide +kernel
theorem ft_backX20 : Con P9f 1 fn_backX20 := con_of J9_okf (d := 0) (n := 0) (fun _ hc => by cases hc) fk_backX20
def fn_backX21 : aN := (97, [.inl [0], .inr (.inl (.inl 2))], [(61, 3, .inr (.inl (.inr (0, 1, 0))))], [(0, 20)], [.inr (.inr (.inl (78, 2, .inl 1)))], [(12, 2), (12, 3), (12, 4), (13, 4), (13, 5), (14, 1000), (15, 1000), (16, 1000), (17, 3), (18, 1000), (19, 1000), (20, 1000), (21, 3), (22, 1000), (23, 1000), (24, 1000)], [(some (.inr (.inl (.inr (0, 1, 1)))), [(21, 3, .inr (.inl (.inr (0, 1, 0)))), (61, 3, .inr (.inl (.inr (0, 1, 0))))], [(0, 20), (0, 30)], [])])
theorem fk_backX21 : chkM P39f (mkQ P39f fn_backX21.2.2.2.2.2.1 [] 3000 3) fn_backX21 (.inl 0, .inl 0, .inl 0) [] 3000 = true := by decide +kernel
theorem ft_backX21 : Con P9f 4 fn_backX21 := con_of J9_okf (d := 0) (n := 3) (fun _ hc => by cases hc) fk_backX21
def fn_backX30 : aN := (97, [.inl [0], .inr (.inl (.inl 3))], [], [], [.inr (.inr (.inl (78, 3, .inl 0)))], [], [(some (.inr (.inl (.inl (-1)))), [], [], [])])
theorem fk_backX30 : chkM P39f (mkQ P39f fn_backX30.2.2.2.2.2.1 [] 3000 0) fn_backX30 (.inl 0, .inl 0, .inl 0) [] 3000 = true := by decide +kernel
theorem ft_backX30 : Con P9f 1 fn_backX30 := con_of J9_okf (d := 0) (n := 0) (fun _ hc => by cases hc) fk_backX30
def fn_backX31 : aN := (97, [.inl [0], .inr (.inl (.inl 3))], [(74, 3, .inr (.inl (.inr (0, 1, 0))))], [(0, 20)], [.inr (.inr (.inl (78, 3, .inl 1)))], [(12, 2), (12, 3), (12, 4), (13, 4), (13, 5), (14, 1000), (15, 1000), (16, 1000), (17, 3), (18, 1000), (19, 1000), (20, 1000), (21, 3), (22, 1000), (23, 1000), (24, 1000)], [(some (.inr (.inl (.inr (0, 1, 1)))), [(21, 3, .inr (.inl (.inr (0, 1, 0)))), (74, 3, .inr (.inl (.inr (0, 1, 0))))], [(0, 20), (0, 30)], [])])
theorem fk_backX31 : chkM P39f (mkQ P39f fn_backX31.2.2.2.2.2.1 [] 3000 3) fn_backX31 (.inl 0, .inl 0, .inl 0) [] 3000 = true := by decide +kernel
theorem ft_backX31 : Con P9f 4 fn_backX31 := con_of J9_okf (d := 0) (n := 3) (fun _ hc => by cases hc) fk_backX31
def fn_backXn : aN := (97, [.inl [0], .inr (.inl (.inr (0, 1, 0)))], [], [((-2147483648), (-1))], [], [], [(some (.inr (.inl (.inl (-1)))), [], [((-2147483648), (-1))], [])])
theorem fk_backXn : chkM P39f (mkQ P39f fn_backXn.2.2.2.2.2.1 [] 3000 0) fn_backXn (.inl 0, .inl 0, .inl 0) [] 3000 = true := by decide +kernel
theorem ft_backXn : Con P9f 1 fn_backXn := con_of J9_okf (d := 0) (n := 0) (fun _ hc => by cases hc) fk_backXn
def fn_backXp : aN := (97, [.inl [0], .inr (.inl (.inr (0, 1, 0)))], [], [(4, 2147483647)], [], [], [(some (.inr (.inl (.inl (-1)))), [], [(4, 2147483647)], [])])
theorem fk_backXp : chkM P39f (mkQ P39f fn_backXp.2.2.2.2.2.1 [] 3000 0) fn_backXp (.inl 0, .inl 0, .inl 0) [] 3000 = true := by decide +kernel
theorem ft_backXp : Con P9f 1 fn_backXp := con_of J9_okf (d := 0) (n := 0) (fun _ hc => by cases hc) fk_backXp
def fn_imageMn : aN := (188, [.inl [170], .inr (.inl (.inr (0, 1, 0)))], [], [((-2147483648), (-1))], [], [], [(some (.inr (.inl (.inl (-1)))), [], [((-2147483648), (-1))], [])])
theorem fk_imageMn : chkM P39f (mkQ P39f fn_imageMn.2.2.2.2.2.1 [] 3000 1) fn_imageMn (.inl 0, .inl 0, .inl 0) [] 3000 = true := by decide +kernel
theorem ft_imageMn : Con P9f 2 fn_imageMn := con_of J9_okf (d := 0) (n := 1) (fun _ hc => by cases hc) fk_imageMn
def fn_imageMp : aN := (188, [.inl [170], .inr (.inl (.inr (0, 1, 0)))], [], [(4, 2147483647)], [], [], [(some (.inr (.inl (.inl (-1)))), [], [(4, 2147483647)], [])])
theorem fk_imageMp : chkM P39f (mkQ P39f fn_imageMp.2.2.2.2.2.1 [] 3000 1) fn_imageMp (.inl 0, .inl 0, .inl 0) [] 3000 = true := by decide +kernel
theorem ft_imageMp : Con P9f 2 fn_imageMp := con_of J9_okf (d := 0) (n := 1) (fun _ hc => by cases hc) fk_imageMp
def fn_backMn : aN := (155, [.inl [170], .inr (.inl (.inr (0, 1, 0)))], [], [((-2147483648), (-1))], [], [], [(some (.inr (.inl (.inl (-1)))), [], [((-2147483648), (-1))], [])])
theorem fk_backMn : chkM P39f (mkQ P39f fn_backMn.2.2.2.2.2.1 [] 3000 1) fn_backMn (.inl 0, .inl 0, .inl 0) [] 3000 = true := by decide +kernel
theorem ft_backMn : Con P9f 2 fn_backMn := con_of J9_okf (d := 0) (n := 1) (fun _ hc => by cases hc) fk_backMn
def fn_backMp : aN := (155, [.inl [170], .inr (.inl (.inr (0, 1, 0)))], [], [(4, 2147483647)], [], [], [(some (.inr (.inl (.inl (-1)))), [], [(4, 2147483647)], [])])
theorem fk_backMp : chkM P39f (mkQ P39f fn_backMp.2.2.2.2.2.1 [] 3000 1) fn_backMp (.inl 0, .inl 0, .inl 0) [] 3000 = true := by decide +kernel
theorem ft_backMp : Con P9f 2 fn_backMp := con_of J9_okf (d := 0) (n := 1) (fun _ hc => by cases hc) fk_backMp
def fn_backM00 : aN := (155, [.inl [170], .inr (.inl (.inl 0))], [], [], [.inr (.inr (.inl (204, 0, .inl 0)))], [], [(some (.inr (.inl (.inl (-1)))), [], [], [])])
theorem fk_backM00 : chkM P39f (mkQ P39f fn_backM00.2.2.2.2.2.1 [] 3000 1) fn_backM00 (.inl 0, .inl 0, .inl 0) [] 3000 = true := by decide +kernel
theorem ft_backM00 : Con P9f 2 fn_backM00 := con_of J9_okf (d := 0) (n := 1) (fun _ hc => by cases hc) fk_backM00
def fn_backM10 : aN := (155, [.inl [170], .inr (.inl (.inl 1))], [], [], [.inr (.inr (.inl (204, 1, .inl 0)))], [], [(some (.inr (.inl (.inl (-1)))), [], [], [])])
theorem fk_backM10 : chkM P39f (mkQ P39f fn_backM10.2.2.2.2.2.1 [] 3000 1) fn_backM10 (.inl 0, .inl 0, .inl 0) [] 3000 = true := by decide +kernel
theorem ft_backM10 : Con P9f 2 fn_backM10 := con_of J9_okf (d := 0) (n := 1) (fun _ hc => by cases hc) fk_backM10
def fn_backM20 : aN := (155, [.inl [170], .inr (.inl (.inl 2))], [], [], [.inr (.inr (.inl (204, 2, .inl 0)))], [], [(some (.inr (.inl (.inl (-1)))), [], [], [])])
theorem fk_backM20 : chkM P39f (mkQ P39f fn_backM20.2.2.2.2.2.1 [] 3000 1) fn_backM20 (.inl 0, .inl 0, .inl 0) [] 3000 = true := by decide +kernel
theorem ft_backM20 : Con P9f 2 fn_backM20 := con_of J9_okf (d := 0) (n := 1) (fun _ hc => by cases hc) fk_backM20
def fn_backM30 : aN := (155, [.inl [170], .inr (.inl (.inl 3))], [], [], [.inr (.inr (.inl (204, 3, .inl 0)))], [], [(some (.inr (.inl (.inl (-1)))), [], [], [])])
theorem fk_backM30 : chkM P39f (mkQ P39f fn_backM30.2.2.2.2.2.1 [] 3000 1) fn_backM30 (.inl 0, .inl 0, .inl 0) [] 3000 = true := by decide +kernel
theorem ft_backM30 : Con P9f 2 fn_backM30 := con_of J9_okf (d := 0) (n := 1) (fun _ hc => by cases hc) fk_backM30
