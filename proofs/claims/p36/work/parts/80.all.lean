theorem zt0 : Con P9 1 zn0 := con_of J9_ok (d := 0) (n := 0) (cs_nil) zk0
theorem zt1 : Con P9 3 zn1 := con_of J9_ok (d := 1) (n := 1) (cs_cons (Con_le (by decide) (zt0)) (cs_nil)) zk1
theorem zt2 : Con P9 5 zn2 := con_of J9_ok (d := 0) (n := 4) (cs_nil) zk2
theorem zt3 : Con P9 5 zn3 := con_of J9_ok (d := 0) (n := 4) (cs_nil) zk3
theorem zt4 : Con P9 5 zn4 := con_of J9_ok (d := 0) (n := 4) (cs_nil) zk4
theorem zt5 : Con P9 5 zn5 := con_of J9_ok (d := 0) (n := 4) (cs_nil) zk5
theorem zt6 : Con P9 5 zn6 := con_of J9_ok (d := 0) (n := 4) (cs_nil) zk6
theorem zt7 : Con P9 5 zn7 := con_of J9_ok (d := 0) (n := 4) (cs_nil) zk7
theorem zt8 : Con P9 5 zn8 := con_of J9_ok (d := 0) (n := 4) (cs_nil) zk8
theorem zt9 : Con P9 5 zn9 := con_of J9_ok (d := 0) (n := 4) (cs_nil) zk9
theorem zt10 : Con P9 5 zn10 := con_of J9_ok (d := 0) (n := 4) (cs_nil) zk10
theorem zt11 : Con P9 5 zn11 := con_of J9_ok (d := 0) (n := 4) (cs_nil) zk11
theorem zt12 : Con P9 5 zn12 := con_of J9_ok (d := 0) (n := 4) (cs_nil) zk12
theorem zt13 : Con P9 5 zn13 := con_of J9_ok (d := 0) (n := 4) (cs_nil) zk13
theorem zt14 : Con P9 5 zn14 := con_of J9_ok (d := 0) (n := 4) (cs_nil) zk14
theorem zt15 : Con P9 5 zn15 := con_of J9_ok (d := 0) (n := 4) (cs_nil) zk15
theorem zt16 : Con P9 5 zn16 := con_of J9_ok (d := 0) (n := 4) (cs_nil) zk16
theorem zt17 : Con P9 5 zn17 := con_of J9_ok (d := 0) (n := 4) (cs_nil) zk17
theorem zt18 : Con P9 5 zn18 := con_of J9_ok (d := 0) (n := 4) (cs_nil) zk18
theorem zt19 : Con P9 5 zn19 := con_of J9_ok (d := 0) (n := 4) (cs_nil) zk19
theorem zt20 : Con P9 3 zn20 := con_of J9_ok (d := 1) (n := 1) (cs_cons (Con_le (by decide) (zt0)) (cs_nil)) zk20
theorem zt21 : Con P9 1 zn21 := con_of J9_ok (d := 0) (n := 0) (cs_nil) zk21
theorem zt22 : Con P9 1 zn22 := con_of J9_ok (d := 0) (n := 0) (cs_nil) zk22
theorem zt23 : Con P9 10 zn23 := con_of J9_ok (d := 5) (n := 4) (cs_cons (Con_le (by decide) (zt1)) (cs_cons (Con_le (by decide) (zt16)) (cs_cons (Con_le (by decide) (zt17)) (cs_cons (Con_le (by decide) (zt18)) (cs_cons (Con_le (by decide) (zt19)) (cs_cons (Con_le (by decide) (zt20)) (cs_cons (Con_le (by decide) (zt22)) (cs_nil)))))))) zk23
theorem zt24 : Con P9 13 zn24 := con_of J9_ok (d := 10) (n := 2) (cs_cons (Con_le (by decide) (zt0)) (cs_cons (Con_le (by decide) (zt23)) (cs_nil))) zk24
theorem zt25 : Con P9 16 zn25 := con_of J9_ok (d := 13) (n := 2) (cs_cons (Con_le (by decide) (zt24)) (cs_nil)) zk25
theorem zt26 : Con P9 2 zn26 := con_of J9_ok (d := 1) (n := 0) (cs_cons (Con_le (by decide) (zt21)) (cs_nil)) zk26
theorem zt27 : Con P9 1 zn27 := con_of J9_ok (d := 0) (n := 0) (cs_nil) zk27
theorem zt28 : Con P9 1 zn28 := add_c0
theorem zt29 : Con P9 1 zn29 := add_c1
theorem zt30 : Con P9 1 zn30 := add_c2
theorem zt31 : Con P9 6 zn31 := con_of J9_ok (d := 5) (n := 0) (cs_cons (Con_le (by decide) (zt7)) (cs_cons (Con_le (by decide) (zt8)) (cs_cons (Con_le (by decide) (zt9)) (cs_cons (Con_le (by decide) (zt10)) (cs_cons (Con_le (by decide) (zt11)) (cs_cons (Con_le (by decide) (zt12)) (cs_cons (Con_le (by decide) (zt13)) (cs_cons (Con_le (by decide) (zt14)) (cs_cons (Con_le (by decide) (zt15)) (cs_nil)))))))))) zk31
theorem zt32 : Con P9 9 zn32 := con_of J9_ok (d := 6) (n := 2) (cs_cons (Con_le (by decide) (zt0)) (cs_cons (Con_le (by decide) (zt1)) (cs_cons (Con_le (by decide) (zt20)) (cs_cons (Con_le (by decide) (zt28)) (cs_cons (Con_le (by decide) (zt29)) (cs_cons (Con_le (by decide) (zt31)) (cs_nil))))))) zk32
theorem zt33 : Con P9 10 zn33 := con_of J9_ok (d := 9) (n := 0) (cs_cons (Con_le (by decide) (zt0)) (cs_cons (Con_le (by decide) (zt30)) (cs_cons (Con_le (by decide) (zt32)) (cs_nil)))) zk33
theorem zt34 : Con P9 4 zn34 := con_of J9_ok (d := 1) (n := 2) (cs_cons (Con_le (by decide) (zt0)) (cs_nil)) zk34
theorem zt35 : Con P9 12 zn35 := con_of J9_ok (d := 10) (n := 1) (cs_cons (Con_le (by decide) (zt0)) (cs_cons (Con_le (by decide) (zt1)) (cs_cons (Con_le (by decide) (zt6)) (cs_cons (Con_le (by decide) (zt30)) (cs_cons (Con_le (by decide) (zt33)) (cs_cons (Con_le (by decide) (zt34)) (cs_nil))))))) zk35
theorem zt36 : Con P9 14 zn36 := con_of J9_ok (d := 12) (n := 1) (cs_cons (Con_le (by decide) (zt1)) (cs_cons (Con_le (by decide) (zt4)) (cs_cons (Con_le (by decide) (zt5)) (cs_cons (Con_le (by decide) (zt30)) (cs_cons (Con_le (by decide) (zt35)) (cs_nil)))))) zk36
theorem zt37 : Con P9 16 zn37 := con_of J9_ok (d := 14) (n := 1) (cs_cons (Con_le (by decide) (zt0)) (cs_cons (Con_le (by decide) (zt1)) (cs_cons (Con_le (by decide) (zt6)) (cs_cons (Con_le (by decide) (zt30)) (cs_cons (Con_le (by decide) (zt33)) (cs_cons (Con_le (by decide) (zt34)) (cs_cons (Con_le (by decide) (zt35)) (cs_cons (Con_le (by decide) (zt36)) (cs_nil))))))))) zk37
theorem zt38 : Con P9 18 zn38 := con_of J9_ok (d := 16) (n := 1) (cs_cons (Con_le (by decide) (zt1)) (cs_cons (Con_le (by decide) (zt4)) (cs_cons (Con_le (by decide) (zt5)) (cs_cons (Con_le (by decide) (zt30)) (cs_cons (Con_le (by decide) (zt37)) (cs_nil)))))) zk38
theorem zt39 : Con P9 20 zn39 := con_of J9_ok (d := 18) (n := 1) (cs_cons (Con_le (by decide) (zt0)) (cs_cons (Con_le (by decide) (zt1)) (cs_cons (Con_le (by decide) (zt6)) (cs_cons (Con_le (by decide) (zt30)) (cs_cons (Con_le (by decide) (zt33)) (cs_cons (Con_le (by decide) (zt34)) (cs_cons (Con_le (by decide) (zt37)) (cs_cons (Con_le (by decide) (zt38)) (cs_nil))))))))) zk39
theorem zt40 : Con P9 22 zn40 := con_of J9_ok (d := 20) (n := 1) (cs_cons (Con_le (by decide) (zt1)) (cs_cons (Con_le (by decide) (zt4)) (cs_cons (Con_le (by decide) (zt5)) (cs_cons (Con_le (by decide) (zt30)) (cs_cons (Con_le (by decide) (zt39)) (cs_nil)))))) zk40
theorem zt41 : Con P9 24 zn41 := con_of J9_ok (d := 22) (n := 1) (cs_cons (Con_le (by decide) (zt0)) (cs_cons (Con_le (by decide) (zt1)) (cs_cons (Con_le (by decide) (zt6)) (cs_cons (Con_le (by decide) (zt30)) (cs_cons (Con_le (by decide) (zt33)) (cs_cons (Con_le (by decide) (zt34)) (cs_cons (Con_le (by decide) (zt39)) (cs_cons (Con_le (by decide) (zt40)) (cs_nil))))))))) zk41
theorem zt42 : Con P9 26 zn42 := con_of J9_ok (d := 24) (n := 1) (cs_cons (Con_le (by decide) (zt1)) (cs_cons (Con_le (by decide) (zt4)) (cs_cons (Con_le (by decide) (zt5)) (cs_cons (Con_le (by decide) (zt30)) (cs_cons (Con_le (by decide) (zt41)) (cs_nil)))))) zk42
theorem zt43 : Con P9 28 zn43 := con_of J9_ok (d := 26) (n := 1) (cs_cons (Con_le (by decide) (zt0)) (cs_cons (Con_le (by decide) (zt1)) (cs_cons (Con_le (by decide) (zt6)) (cs_cons (Con_le (by decide) (zt30)) (cs_cons (Con_le (by decide) (zt33)) (cs_cons (Con_le (by decide) (zt34)) (cs_cons (Con_le (by decide) (zt41)) (cs_cons (Con_le (by decide) (zt42)) (cs_nil))))))))) zk43
theorem zt44 : Con P9 30 zn44 := con_of J9_ok (d := 28) (n := 1) (cs_cons (Con_le (by decide) (zt1)) (cs_cons (Con_le (by decide) (zt4)) (cs_cons (Con_le (by decide) (zt5)) (cs_cons (Con_le (by decide) (zt30)) (cs_cons (Con_le (by decide) (zt43)) (cs_nil)))))) zk44
theorem zt45 : Con P9 32 zn45 := con_of J9_ok (d := 30) (n := 1) (cs_cons (Con_le (by decide) (zt0)) (cs_cons (Con_le (by decide) (zt1)) (cs_cons (Con_le (by decide) (zt6)) (cs_cons (Con_le (by decide) (zt30)) (cs_cons (Con_le (by decide) (zt33)) (cs_cons (Con_le (by decide) (zt34)) (cs_cons (Con_le (by decide) (zt43)) (cs_cons (Con_le (by decide) (zt44)) (cs_nil))))))))) zk45
theorem zt46 : Con P9 34 zn46 := con_of J9_ok (d := 32) (n := 1) (cs_cons (Con_le (by decide) (zt1)) (cs_cons (Con_le (by decide) (zt4)) (cs_cons (Con_le (by decide) (zt5)) (cs_cons (Con_le (by decide) (zt30)) (cs_cons (Con_le (by decide) (zt45)) (cs_nil)))))) zk46
theorem zt47 : Con P9 36 zn47 := con_of J9_ok (d := 34) (n := 1) (cs_cons (Con_le (by decide) (zt0)) (cs_cons (Con_le (by decide) (zt1)) (cs_cons (Con_le (by decide) (zt6)) (cs_cons (Con_le (by decide) (zt30)) (cs_cons (Con_le (by decide) (zt33)) (cs_cons (Con_le (by decide) (zt34)) (cs_cons (Con_le (by decide) (zt45)) (cs_cons (Con_le (by decide) (zt46)) (cs_nil))))))))) zk47
theorem zt48 : Con P9 38 zn48 := con_of J9_ok (d := 36) (n := 1) (cs_cons (Con_le (by decide) (zt1)) (cs_cons (Con_le (by decide) (zt4)) (cs_cons (Con_le (by decide) (zt5)) (cs_cons (Con_le (by decide) (zt30)) (cs_cons (Con_le (by decide) (zt47)) (cs_nil)))))) zk48
theorem zt49 : Con P9 40 zn49 := con_of J9_ok (d := 38) (n := 1) (cs_cons (Con_le (by decide) (zt0)) (cs_cons (Con_le (by decide) (zt1)) (cs_cons (Con_le (by decide) (zt6)) (cs_cons (Con_le (by decide) (zt30)) (cs_cons (Con_le (by decide) (zt33)) (cs_cons (Con_le (by decide) (zt34)) (cs_cons (Con_le (by decide) (zt47)) (cs_cons (Con_le (by decide) (zt48)) (cs_nil))))))))) zk49
theorem zt50 : Con P9 42 zn50 := con_of J9_ok (d := 40) (n := 1) (cs_cons (Con_le (by decide) (zt1)) (cs_cons (Con_le (by decide) (zt4)) (cs_cons (Con_le (by decide) (zt5)) (cs_cons (Con_le (by decide) (zt30)) (cs_cons (Con_le (by decide) (zt49)) (cs_nil)))))) zk50
theorem zt51 : Con P9 44 zn51 := con_of J9_ok (d := 42) (n := 1) (cs_cons (Con_le (by decide) (zt0)) (cs_cons (Con_le (by decide) (zt1)) (cs_cons (Con_le (by decide) (zt6)) (cs_cons (Con_le (by decide) (zt30)) (cs_cons (Con_le (by decide) (zt33)) (cs_cons (Con_le (by decide) (zt34)) (cs_cons (Con_le (by decide) (zt49)) (cs_cons (Con_le (by decide) (zt50)) (cs_nil))))))))) zk51
theorem zt52 : Con P9 46 zn52 := con_of J9_ok (d := 44) (n := 1) (cs_cons (Con_le (by decide) (zt1)) (cs_cons (Con_le (by decide) (zt4)) (cs_cons (Con_le (by decide) (zt5)) (cs_cons (Con_le (by decide) (zt30)) (cs_cons (Con_le (by decide) (zt51)) (cs_nil)))))) zk52
theorem zt53 : Con P9 48 zn53 := con_of J9_ok (d := 46) (n := 1) (cs_cons (Con_le (by decide) (zt0)) (cs_cons (Con_le (by decide) (zt1)) (cs_cons (Con_le (by decide) (zt6)) (cs_cons (Con_le (by decide) (zt30)) (cs_cons (Con_le (by decide) (zt33)) (cs_cons (Con_le (by decide) (zt34)) (cs_cons (Con_le (by decide) (zt51)) (cs_cons (Con_le (by decide) (zt52)) (cs_nil))))))))) zk53
theorem zt54 : Con P9 50 zn54 := con_of J9_ok (d := 48) (n := 1) (cs_cons (Con_le (by decide) (zt1)) (cs_cons (Con_le (by decide) (zt4)) (cs_cons (Con_le (by decide) (zt5)) (cs_cons (Con_le (by decide) (zt30)) (cs_cons (Con_le (by decide) (zt53)) (cs_nil)))))) zk54
theorem zt55 : Con P9 52 zn55 := con_of J9_ok (d := 50) (n := 1) (cs_cons (Con_le (by decide) (zt0)) (cs_cons (Con_le (by decide) (zt1)) (cs_cons (Con_le (by decide) (zt6)) (cs_cons (Con_le (by decide) (zt30)) (cs_cons (Con_le (by decide) (zt33)) (cs_cons (Con_le (by decide) (zt34)) (cs_cons (Con_le (by decide) (zt53)) (cs_cons (Con_le (by decide) (zt54)) (cs_nil))))))))) zk55
theorem zt56 : Con P9 54 zn56 := con_of J9_ok (d := 52) (n := 1) (cs_cons (Con_le (by decide) (zt1)) (cs_cons (Con_le (by decide) (zt4)) (cs_cons (Con_le (by decide) (zt5)) (cs_cons (Con_le (by decide) (zt30)) (cs_cons (Con_le (by decide) (zt55)) (cs_nil)))))) zk56
theorem zt57 : Con P9 57 zn57 := con_of J9_ok (d := 54) (n := 2) (cs_cons (Con_le (by decide) (zt0)) (cs_cons (Con_le (by decide) (zt1)) (cs_cons (Con_le (by decide) (zt2)) (cs_cons (Con_le (by decide) (zt3)) (cs_cons (Con_le (by decide) (zt56)) (cs_nil)))))) zk57
theorem zt58 : Con P9 57 zn58 := con_of J9_ok (d := 54) (n := 2) (cs_cons (Con_le (by decide) (zt0)) (cs_cons (Con_le (by decide) (zt1)) (cs_cons (Con_le (by decide) (zt2)) (cs_cons (Con_le (by decide) (zt3)) (cs_cons (Con_le (by decide) (zt56)) (cs_nil)))))) zk58
theorem zt59 : Con P9 57 zn59 := con_of J9_ok (d := 54) (n := 2) (cs_cons (Con_le (by decide) (zt0)) (cs_cons (Con_le (by decide) (zt1)) (cs_cons (Con_le (by decide) (zt2)) (cs_cons (Con_le (by decide) (zt3)) (cs_cons (Con_le (by decide) (zt56)) (cs_nil)))))) zk59
theorem zt60 : Con P9 57 zn60 := con_of J9_ok (d := 54) (n := 2) (cs_cons (Con_le (by decide) (zt0)) (cs_cons (Con_le (by decide) (zt1)) (cs_cons (Con_le (by decide) (zt2)) (cs_cons (Con_le (by decide) (zt3)) (cs_cons (Con_le (by decide) (zt56)) (cs_nil)))))) zk60
theorem zt61 : Con P9 57 zn61 := con_of J9_ok (d := 54) (n := 2) (cs_cons (Con_le (by decide) (zt0)) (cs_cons (Con_le (by decide) (zt1)) (cs_cons (Con_le (by decide) (zt2)) (cs_cons (Con_le (by decide) (zt3)) (cs_cons (Con_le (by decide) (zt56)) (cs_nil)))))) zk61
theorem zt62 : Con P9 57 zn62 := con_of J9_ok (d := 54) (n := 2) (cs_cons (Con_le (by decide) (zt0)) (cs_cons (Con_le (by decide) (zt1)) (cs_cons (Con_le (by decide) (zt2)) (cs_cons (Con_le (by decide) (zt3)) (cs_cons (Con_le (by decide) (zt56)) (cs_nil)))))) zk62
theorem zt63 : Con P9 58 zn63 := con_of J9_ok (d := 57) (n := 0) (cs_cons (Con_le (by decide) (zt57)) (cs_cons (Con_le (by decide) (zt58)) (cs_cons (Con_le (by decide) (zt59)) (cs_cons (Con_le (by decide) (zt60)) (cs_cons (Con_le (by decide) (zt61)) (cs_cons (Con_le (by decide) (zt62)) (cs_nil))))))) zk63
theorem zt64 : Con P9 3 zn64 := con_of J9_ok (d := 0) (n := 2) (cs_nil) zk64
theorem zt65 : Con P9 3 zn65 := con_of J9_ok (d := 0) (n := 2) (cs_nil) zk65
theorem zt66 : Con P9 2 zn66 := con_of J9_ok (d := 0) (n := 1) (cs_nil) zk66
theorem zt67 : Con P9 5 zn67 := con_of J9_ok (d := 3) (n := 1) (cs_cons (Con_le (by decide) (zt64)) (cs_nil)) zk67
theorem zt68 : Con P9 4 zn68 := con_of J9_ok (d := 3) (n := 0) (cs_cons (Con_le (by decide) (zt64)) (cs_nil)) zk68
theorem zt69 : Con P9 4 zn69 := con_of J9_ok (d := 3) (n := 0) (cs_cons (Con_le (by decide) (zt64)) (cs_nil)) zk69
theorem zt70 : Con P9 6 zn70 := con_of J9_ok (d := 3) (n := 2) (cs_cons (Con_le (by decide) (zt64)) (cs_nil)) zk70
theorem zt71 : Con P9 1 zn71 := con_of J9_ok (d := 0) (n := 0) (cs_nil) zk71
theorem zt72 : Con P9 4 zn72 := con_of J9_ok (d := 3) (n := 0) (cs_cons (Con_le (by decide) (zt64)) (cs_cons (Con_le (by decide) (zt71)) (cs_nil))) zk72
theorem zt73 : Con P9 2 zn73 := con_of J9_ok (d := 0) (n := 1) (cs_nil) zk73
theorem zt74 : Con P9 3 zn74 := con_of J9_ok (d := 2) (n := 0) (cs_cons (Con_le (by decide) (zt73)) (cs_nil)) zk74
theorem zt75 : Con P9 4 zn75 := con_of J9_ok (d := 3) (n := 0) (cs_cons (Con_le (by decide) (zt74)) (cs_nil)) zk75
theorem zt76 : Con P9 1 zn76 := con_of J9_ok (d := 0) (n := 0) (cs_nil) zk76
theorem zt77 : Con P9 2 zn77 := con_of J9_ok (d := 1) (n := 0) (cs_cons (Con_le (by decide) (zt76)) (cs_nil)) zk77
theorem zt78 : Con P9 3 zn78 := con_of J9_ok (d := 2) (n := 0) (cs_cons (Con_le (by decide) (zt77)) (cs_nil)) zk78
theorem zt79 : Con P9 4 zn79 := con_of J9_ok (d := 3) (n := 0) (cs_cons (Con_le (by decide) (zt78)) (cs_nil)) zk79
theorem zt80 : Con P9 5 zn80 := con_of J9_ok (d := 4) (n := 0) (cs_cons (Con_le (by decide) (zt79)) (cs_nil)) zk80
theorem zt81 : Con P9 6 zn81 := con_of J9_ok (d := 5) (n := 0) (cs_cons (Con_le (by decide) (zt80)) (cs_nil)) zk81
theorem zt82 : Con P9 7 zn82 := con_of J9_ok (d := 6) (n := 0) (cs_cons (Con_le (by decide) (zt81)) (cs_nil)) zk82
theorem zt83 : Con P9 8 zn83 := con_of J9_ok (d := 7) (n := 0) (cs_cons (Con_le (by decide) (zt82)) (cs_nil)) zk83
theorem zt84 : Con P9 9 zn84 := con_of J9_ok (d := 8) (n := 0) (cs_cons (Con_le (by decide) (zt83)) (cs_nil)) zk84
theorem zt85 : Con P9 10 zn85 := con_of J9_ok (d := 9) (n := 0) (cs_cons (Con_le (by decide) (zt84)) (cs_nil)) zk85
theorem zt86 : Con P9 11 zn86 := con_of J9_ok (d := 10) (n := 0) (cs_cons (Con_le (by decide) (zt85)) (cs_nil)) zk86
theorem zt87 : Con P9 2 zn87 := jC_ok
theorem zt88 : Con P9 3 zn88 := con_of J9_ok (d := 2) (n := 0) (cs_cons (Con_le (by decide) (zt87)) (cs_nil)) zk88
theorem zt89 : Con P9 3 zn89 := con_of J9_ok (d := 0) (n := 2) (cs_nil) zk89
theorem zt90 : Con P9 7 zn90 := con_of J9_ok (d := 4) (n := 2) (cs_cons (Con_le (by decide) (zt64)) (cs_cons (Con_le (by decide) (zt72)) (cs_cons (Con_le (by decide) (zt75)) (cs_nil)))) zk90
theorem zt91 : Con P9 1 zn91 := con_of J9_ok (d := 0) (n := 0) (cs_nil) zk91
theorem zt92 : Con P9 1 zn92 := con_of J9_ok (d := 0) (n := 0) (cs_nil) zk92
theorem zt93 : Con P9 8 zn93 := con_of J9_ok (d := 5) (n := 2) (cs_cons (Con_le (by decide) (zt66)) (cs_cons (Con_le (by decide) (zt67)) (cs_cons (Con_le (by decide) (zt88)) (cs_nil)))) zk93
theorem zt94 : Con P9 9 zn94 := con_of J9_ok (d := 6) (n := 2) (cs_cons (Con_le (by decide) (zt70)) (cs_nil)) zk94
theorem zt95 : Con P9 8 zn95 := con_of J9_ok (d := 5) (n := 2) (cs_cons (Con_le (by decide) (zt66)) (cs_cons (Con_le (by decide) (zt67)) (cs_cons (Con_le (by decide) (zt88)) (cs_nil)))) zk95
theorem zt96 : Con P9 9 zn96 := con_of J9_ok (d := 6) (n := 2) (cs_cons (Con_le (by decide) (zt70)) (cs_nil)) zk96
theorem zt97 : Con P9 1 zn97 := con_of J9_ok (d := 0) (n := 0) (cs_nil) zk97
theorem zt98 : Con P9 11 zn98 := con_of J9_ok (d := 9) (n := 1) (cs_cons (Con_le (by decide) (zt89)) (cs_cons (Con_le (by decide) (zt90)) (cs_cons (Con_le (by decide) (zt93)) (cs_cons (Con_le (by decide) (zt94)) (cs_cons (Con_le (by decide) (zt97)) (cs_nil)))))) zk98
theorem zt99 : Con P9 1 zn99 := con_of J9_ok (d := 0) (n := 0) (cs_nil) zk99
theorem zt100 : Con P9 11 zn100 := con_of J9_ok (d := 9) (n := 1) (cs_cons (Con_le (by decide) (zt89)) (cs_cons (Con_le (by decide) (zt90)) (cs_cons (Con_le (by decide) (zt95)) (cs_cons (Con_le (by decide) (zt96)) (cs_cons (Con_le (by decide) (zt99)) (cs_nil)))))) zk100
theorem zt101 : Con P9 2 zn101 := con_of J9_ok (d := 0) (n := 1) (cs_nil) zk101
theorem zt102 : Con P9 2 zn102 := con_of J9_ok (d := 0) (n := 1) (cs_nil) zk102
theorem zt103 : Con P9 5 zn103 := con_of J9_ok (d := 2) (n := 2) (cs_cons (Con_le (by decide) (zt101)) (cs_cons (Con_le (by decide) (zt102)) (cs_nil))) zk103
theorem zt104 : Con P9 6 zn104 := con_of J9_ok (d := 5) (n := 0) (cs_cons (Con_le (by decide) (zt103)) (cs_nil)) zk104
theorem zt105 : Con P9 6 zn105 := con_of J9_ok (d := 5) (n := 0) (cs_cons (Con_le (by decide) (zt103)) (cs_nil)) zk105
theorem zt106 : Con P9 2 zn106 := con_of J9_ok (d := 0) (n := 1) (cs_nil) zk106
theorem zt107 : Con P9 2 zn107 := con_of J9_ok (d := 0) (n := 1) (cs_nil) zk107
theorem zt108 : Con P9 1 zn108 := con_of J9_ok (d := 0) (n := 0) (cs_nil) zk108
theorem zt109 : Con P9 5 zn109 := con_of J9_ok (d := 1) (n := 3) (cs_cons (Con_le (by decide) (zt108)) (cs_nil)) zk109
theorem zt110 : Con P9 9 zn110 := con_of J9_ok (d := 5) (n := 3) (cs_cons (Con_le (by decide) (zt109)) (cs_nil)) zk110
theorem zt111 : Con P9 13 zn111 := con_of J9_ok (d := 9) (n := 3) (cs_cons (Con_le (by decide) (zt110)) (cs_nil)) zk111
theorem zt112 : Con P9 17 zn112 := con_of J9_ok (d := 13) (n := 3) (cs_cons (Con_le (by decide) (zt111)) (cs_nil)) zk112
theorem zt113 : Con P9 21 zn113 := con_of J9_ok (d := 17) (n := 3) (cs_cons (Con_le (by decide) (zt112)) (cs_nil)) zk113
theorem zt114 : Con P9 25 zn114 := con_of J9_ok (d := 21) (n := 3) (cs_cons (Con_le (by decide) (zt113)) (cs_nil)) zk114
theorem zt115 : Con P9 29 zn115 := con_of J9_ok (d := 25) (n := 3) (cs_cons (Con_le (by decide) (zt114)) (cs_nil)) zk115
theorem zt116 : Con P9 33 zn116 := con_of J9_ok (d := 29) (n := 3) (cs_cons (Con_le (by decide) (zt115)) (cs_nil)) zk116
theorem zt117 : Con P9 37 zn117 := con_of J9_ok (d := 33) (n := 3) (cs_cons (Con_le (by decide) (zt116)) (cs_nil)) zk117
theorem zt118 : Con P9 41 zn118 := con_of J9_ok (d := 37) (n := 3) (cs_cons (Con_le (by decide) (zt117)) (cs_nil)) zk118
theorem zt119 : Con P9 13 zn119 := con_of J9_ok (d := 11) (n := 1) (cs_cons (Con_le (by decide) (zt91)) (cs_cons (Con_le (by decide) (zt98)) (cs_nil))) zk119
theorem zt120 : Con P9 13 zn120 := con_of J9_ok (d := 11) (n := 1) (cs_cons (Con_le (by decide) (zt98)) (cs_nil)) zk120
theorem zt121 : Con P9 2 zn121 := con_of J9_ok (d := 0) (n := 1) (cs_nil) zk121
theorem zt122 : Con P9 13 zn122 := con_of J9_ok (d := 11) (n := 1) (cs_cons (Con_le (by decide) (zt100)) (cs_nil)) zk122
theorem zt123 : Con P9 15 zn123 := con_of J9_ok (d := 11) (n := 3) (cs_cons (Con_le (by decide) (zt72)) (cs_cons (Con_le (by decide) (zt86)) (cs_cons (Con_le (by decide) (zt98)) (cs_nil)))) zk123
theorem zt124 : Con P9 15 zn124 := con_of J9_ok (d := 11) (n := 3) (cs_cons (Con_le (by decide) (zt98)) (cs_nil)) zk124
theorem zt125 : Con P9 7 zn125 := con_of J9_ok (d := 6) (n := 0) (cs_cons (Con_le (by decide) (zt104)) (cs_cons (Con_le (by decide) (zt105)) (cs_cons (Con_le (by decide) (zt106)) (cs_nil)))) zk125
theorem zt126 : Con P9 14 zn126 := con_of J9_ok (d := 11) (n := 2) (cs_cons (Con_le (by decide) (zt100)) (cs_cons (Con_le (by decide) (zt104)) (cs_cons (Con_le (by decide) (zt106)) (cs_cons (Con_le (by decide) (zt107)) (cs_nil))))) zk126
theorem zt127 : Con P9 1 zn127 := con_of J9_ok (d := 0) (n := 0) (cs_nil) zk127
theorem zt128 : Con P9 14 zn128 := con_of J9_ok (d := 11) (n := 2) (cs_cons (Con_le (by decide) (zt91)) (cs_cons (Con_le (by decide) (zt98)) (cs_nil))) zk128
theorem zt129 : Con P9 15 zn129 := con_of J9_ok (d := 11) (n := 3) (cs_cons (Con_le (by decide) (zt66)) (cs_cons (Con_le (by decide) (zt98)) (cs_nil))) zk129
theorem zt130 : Con P9 3 zn130 := con_of J9_ok (d := 0) (n := 2) (cs_nil) zk130
theorem zt131 : Con P9 16 zn131 := con_of J9_ok (d := 13) (n := 2) (cs_cons (Con_le (by decide) (zt119)) (cs_nil)) zk131
theorem zt132 : Con P9 15 zn132 := con_of J9_ok (d := 11) (n := 3) (cs_cons (Con_le (by decide) (zt98)) (cs_nil)) zk132
theorem zt133 : Con P9 15 zn133 := con_of J9_ok (d := 11) (n := 3) (cs_cons (Con_le (by decide) (zt66)) (cs_cons (Con_le (by decide) (zt67)) (cs_cons (Con_le (by decide) (zt69)) (cs_cons (Con_le (by decide) (zt72)) (cs_cons (Con_le (by decide) (zt75)) (cs_cons (Con_le (by decide) (zt98)) (cs_nil))))))) zk133
theorem zt134 : Con P9 15 zn134 := con_of J9_ok (d := 11) (n := 3) (cs_cons (Con_le (by decide) (zt98)) (cs_nil)) zk134
theorem zt135 : Con P9 17 zn135 := con_of J9_ok (d := 13) (n := 3) (cs_cons (Con_le (by decide) (zt98)) (cs_cons (Con_le (by decide) (zt122)) (cs_nil))) zk135
theorem zt136 : Con P9 15 zn136 := con_of J9_ok (d := 11) (n := 3) (cs_cons (Con_le (by decide) (zt98)) (cs_cons (Con_le (by decide) (zt104)) (cs_nil))) zk136
theorem zt137 : Con P9 15 zn137 := con_of J9_ok (d := 11) (n := 3) (cs_cons (Con_le (by decide) (zt68)) (cs_cons (Con_le (by decide) (zt69)) (cs_cons (Con_le (by decide) (zt98)) (cs_nil)))) zk137
theorem zt138 : Con P9 14 zn138 := con_of J9_ok (d := 11) (n := 2) (cs_cons (Con_le (by decide) (zt100)) (cs_nil)) zk138
theorem zt139 : Con P9 2 zn139 := con_of J9_ok (d := 0) (n := 1) (cs_nil) zk139
theorem zt140 : Con P9 5 zn140 := con_of J9_ok (d := 1) (n := 3) (cs_cons (Con_le (by decide) (zt97)) (cs_nil)) zk140
theorem zt141 : Con P9 15 zn141 := con_of J9_ok (d := 11) (n := 3) (cs_cons (Con_le (by decide) (zt98)) (cs_nil)) zk141
theorem zt142 : Con P9 15 zn142 := con_of J9_ok (d := 11) (n := 3) (cs_cons (Con_le (by decide) (zt64)) (cs_cons (Con_le (by decide) (zt98)) (cs_nil))) zk142
theorem zt143 : Con P9 2 zn143 := con_of J9_ok (d := 0) (n := 1) (cs_nil) zk143
theorem zt144 : Con P9 16 zn144 := con_of J9_ok (d := 13) (n := 2) (cs_cons (Con_le (by decide) (zt120)) (cs_nil)) zk144
theorem zt145 : Con P9 2 zn145 := con_of J9_ok (d := 0) (n := 1) (cs_nil) zk145
theorem zt146 : Con P9 15 zn146 := con_of J9_ok (d := 11) (n := 3) (cs_cons (Con_le (by decide) (zt91)) (cs_cons (Con_le (by decide) (zt92)) (cs_cons (Con_le (by decide) (zt98)) (cs_nil)))) zk146
theorem zt147 : Con P9 3 zn147 := con_of J9_ok (d := 0) (n := 2) (cs_nil) zk147
theorem zt148 : Con P9 2 zn148 := con_of J9_ok (d := 0) (n := 1) (cs_nil) zk148
theorem zt149 : Con P9 15 zn149 := con_of J9_ok (d := 11) (n := 3) (cs_cons (Con_le (by decide) (zt98)) (cs_nil)) zk149
theorem zt150 : Con P9 14 zn150 := con_of J9_ok (d := 11) (n := 2) (cs_cons (Con_le (by decide) (zt91)) (cs_cons (Con_le (by decide) (zt98)) (cs_cons (Con_le (by decide) (zt121)) (cs_nil)))) zk150
theorem zt151 : Con P9 15 zn151 := con_of J9_ok (d := 11) (n := 3) (cs_cons (Con_le (by decide) (zt98)) (cs_nil)) zk151
theorem zt152 : Con P9 15 zn152 := con_of J9_ok (d := 11) (n := 3) (cs_cons (Con_le (by decide) (zt98)) (cs_nil)) zk152
theorem zt153 : Con P9 44 zn153 := con_of J9_ok (d := 41) (n := 2) (cs_cons (Con_le (by decide) (zt98)) (cs_cons (Con_le (by decide) (zt118)) (cs_nil))) zk153
theorem zt154 : Con P9 15 zn154 := con_of J9_ok (d := 11) (n := 3) (cs_cons (Con_le (by decide) (zt91)) (cs_cons (Con_le (by decide) (zt98)) (cs_nil))) zk154
theorem zt155 : Con P9 1 zn155 := con_of J9_ok (d := 0) (n := 0) (cs_nil) zk155
theorem zt156 : Con P9 1 zn156 := con_of J9_ok (d := 0) (n := 0) (cs_nil) zk156
theorem zt157 : Con P9 3 zn157 := con_of J9_ok (d := 1) (n := 1) (cs_cons (Con_le (by decide) (zt156)) (cs_nil)) zk157
theorem zt158 : Con P9 2 zn158 := con_of J9_ok (d := 0) (n := 1) (cs_nil) zk158
theorem zt159 : Con P9 3 zn159 := con_of J9_ok (d := 1) (n := 1) (cs_cons (Con_le (by decide) (zt156)) (cs_nil)) zk159
theorem zt160 : Con P9 3 zn160 := con_of J9_ok (d := 1) (n := 1) (cs_cons (Con_le (by decide) (zt156)) (cs_nil)) zk160
theorem zt161 : Con P9 3 zn161 := con_of J9_ok (d := 1) (n := 1) (cs_cons (Con_le (by decide) (zt156)) (cs_nil)) zk161
theorem zt162 : Con P9 3 zn162 := con_of J9_ok (d := 1) (n := 1) (cs_cons (Con_le (by decide) (zt156)) (cs_nil)) zk162
theorem zt163 : Con P9 3 zn163 := con_of J9_ok (d := 1) (n := 1) (cs_cons (Con_le (by decide) (zt156)) (cs_nil)) zk163
theorem zt164 : Con P9 3 zn164 := con_of J9_ok (d := 1) (n := 1) (cs_cons (Con_le (by decide) (zt156)) (cs_nil)) zk164
theorem zt165 : Con P9 2 zn165 := con_of J9_ok (d := 0) (n := 1) (cs_nil) zk165
theorem zt166 : Con P9 1 zn166 := con_of J9_ok (d := 0) (n := 0) (cs_nil) zk166
theorem zt167 : Con P9 3 zn167 := con_of J9_ok (d := 0) (n := 2) (cs_nil) zk167
theorem zt168 : Con P9 2 zn168 := con_of J9_ok (d := 0) (n := 1) (cs_nil) zk168
theorem zt169 : Con P9 3 zn169 := con_of J9_ok (d := 0) (n := 2) (cs_nil) zk169
theorem zt170 : Con P9 2 zn170 := con_of J9_ok (d := 0) (n := 1) (cs_nil) zk170
theorem zt171 : Con P9 2 zn171 := con_of J9_ok (d := 0) (n := 1) (cs_nil) zk171
theorem zt172 : Con P9 1 zn172 := con_of J9_ok (d := 0) (n := 0) (cs_nil) zk172
theorem zt173 : Con P9 2 zn173 := con_of J9_ok (d := 0) (n := 1) (cs_nil) zk173
theorem zt174 : Con P9 1 zn174 := con_of J9_ok (d := 0) (n := 0) (cs_nil) zk174
theorem zt175 : Con P9 4 zn175 := con_of J9_ok (d := 2) (n := 1) (cs_cons (Con_le (by decide) (zt173)) (cs_cons (Con_le (by decide) (zt174)) (cs_nil))) zk175
theorem zt176 : Con P9 2 zn176 := con_of J9_ok (d := 0) (n := 1) (cs_nil) zk176
theorem zt177 : Con P9 4 zn177 := con_of J9_ok (d := 2) (n := 1) (cs_cons (Con_le (by decide) (zt176)) (cs_nil)) zk177
theorem zt178 : Con P9 1 zn178 := con_of J9_ok (d := 0) (n := 0) (cs_nil) zk178
theorem zt179 : Con P9 3 zn179 := hCN_ok
theorem zt180 : Con P9 3 zn180 := con_of J9_ok (d := 1) (n := 1) (cs_cons (Con_le (by decide) (zt155)) (cs_nil)) zk180
theorem zt181 : Con P9 5 zn181 := con_of J9_ok (d := 3) (n := 1) (cs_cons (Con_le (by decide) (zt155)) (cs_cons (Con_le (by decide) (zt173)) (cs_cons (Con_le (by decide) (zt174)) (cs_cons (Con_le (by decide) (zt179)) (cs_cons (Con_le (by decide) (zt180)) (cs_nil)))))) zk181
theorem zt182 : Con P9 7 zn182 := con_of J9_ok (d := 5) (n := 1) (cs_cons (Con_le (by decide) (zt177)) (cs_cons (Con_le (by decide) (zt181)) (cs_nil))) zk182
theorem zt183 : Con P9 1 zn183 := con_of J9_ok (d := 0) (n := 0) (cs_nil) zk183
theorem zt184 : Con P9 2 zn184 := con_of J9_ok (d := 0) (n := 1) (cs_nil) zk184
theorem zt185 : Con P9 2 zn185 := con_of J9_ok (d := 0) (n := 1) (cs_nil) zk185
theorem zt186 : Con P9 4 zn186 := con_of J9_ok (d := 2) (n := 1) (cs_cons (Con_le (by decide) (zt173)) (cs_cons (Con_le (by decide) (zt174)) (cs_nil))) zk186
theorem zt187 : Con P9 5 zn187 := con_of J9_ok (d := 4) (n := 0) (cs_cons (Con_le (by decide) (zt186)) (cs_nil)) zk187
theorem zt188 : Con P9 6 zn188 := con_of J9_ok (d := 5) (n := 0) (cs_cons (Con_le (by decide) (zt186)) (cs_cons (Con_le (by decide) (zt187)) (cs_nil))) zk188
theorem zt189 : Con P9 10 zn189 := con_of J9_ok (d := 7) (n := 2) (cs_cons (Con_le (by decide) (zt178)) (cs_cons (Con_le (by decide) (zt182)) (cs_nil))) zk189
theorem zt190 : Con P9 9 zn190 := con_of J9_ok (d := 7) (n := 1) (cs_cons (Con_le (by decide) (zt178)) (cs_cons (Con_le (by decide) (zt182)) (cs_nil))) zk190
theorem zt191 : Con P9 8 zn191 := con_of J9_ok (d := 6) (n := 1) (cs_cons (Con_le (by decide) (zt186)) (cs_cons (Con_le (by decide) (zt188)) (cs_nil))) zk191
theorem zt192 : Con P9 9 zn192 := con_of J9_ok (d := 7) (n := 1) (cs_cons (Con_le (by decide) (zt182)) (cs_cons (Con_le (by decide) (zt186)) (cs_cons (Con_le (by decide) (zt188)) (cs_nil)))) zk192
theorem zt193 : Con P9 9 zn193 := con_of J9_ok (d := 7) (n := 1) (cs_cons (Con_le (by decide) (zt155)) (cs_cons (Con_le (by decide) (zt178)) (cs_cons (Con_le (by decide) (zt182)) (cs_cons (Con_le (by decide) (zt183)) (cs_nil))))) zk193
theorem zt194 : Con P9 9 zn194 := con_of J9_ok (d := 7) (n := 1) (cs_cons (Con_le (by decide) (zt178)) (cs_cons (Con_le (by decide) (zt182)) (cs_cons (Con_le (by decide) (zt183)) (cs_nil)))) zk194
theorem zt195 : Con P9 9 zn195 := con_of J9_ok (d := 7) (n := 1) (cs_cons (Con_le (by decide) (zt155)) (cs_cons (Con_le (by decide) (zt178)) (cs_cons (Con_le (by decide) (zt182)) (cs_cons (Con_le (by decide) (zt183)) (cs_nil))))) zk195
theorem zt196 : Con P9 9 zn196 := con_of J9_ok (d := 7) (n := 1) (cs_cons (Con_le (by decide) (zt178)) (cs_cons (Con_le (by decide) (zt182)) (cs_nil))) zk196
theorem zt197 : Con P9 10 zn197 := con_of J9_ok (d := 7) (n := 2) (cs_cons (Con_le (by decide) (zt155)) (cs_cons (Con_le (by decide) (zt178)) (cs_cons (Con_le (by decide) (zt182)) (cs_cons (Con_le (by decide) (zt184)) (cs_cons (Con_le (by decide) (zt185)) (cs_nil)))))) zk197
theorem zt198 : Con P9 9 zn198 := con_of J9_ok (d := 7) (n := 1) (cs_cons (Con_le (by decide) (zt178)) (cs_cons (Con_le (by decide) (zt182)) (cs_nil))) zk198
theorem zt199 : Con P9 9 zn199 := con_of J9_ok (d := 7) (n := 1) (cs_cons (Con_le (by decide) (zt178)) (cs_cons (Con_le (by decide) (zt182)) (cs_nil))) zk199
theorem zt200 : Con P9 9 zn200 := con_of J9_ok (d := 7) (n := 1) (cs_cons (Con_le (by decide) (zt178)) (cs_cons (Con_le (by decide) (zt182)) (cs_cons (Con_le (by decide) (zt186)) (cs_nil)))) zk200
theorem zt201 : Con P9 10 zn201 := con_of J9_ok (d := 7) (n := 2) (cs_cons (Con_le (by decide) (zt178)) (cs_cons (Con_le (by decide) (zt182)) (cs_cons (Con_le (by decide) (zt184)) (cs_nil)))) zk201
theorem zt202 : Con P9 9 zn202 := con_of J9_ok (d := 7) (n := 1) (cs_cons (Con_le (by decide) (zt178)) (cs_cons (Con_le (by decide) (zt182)) (cs_nil))) zk202
theorem zt203 : Con P9 4 zn203 := con_of J9_ok (d := 2) (n := 1) (cs_cons (Con_le (by decide) (zt173)) (cs_cons (Con_le (by decide) (zt174)) (cs_cons (Con_le (by decide) (zt178)) (cs_nil)))) zk203
theorem zt204 : Con P9 10 zn204 := con_of J9_ok (d := 7) (n := 2) (cs_cons (Con_le (by decide) (zt178)) (cs_cons (Con_le (by decide) (zt182)) (cs_nil))) zk204
theorem zt205 : Con P9 10 zn205 := con_of J9_ok (d := 7) (n := 2) (cs_cons (Con_le (by decide) (zt178)) (cs_cons (Con_le (by decide) (zt182)) (cs_nil))) zk205
theorem zt206 : Con P9 9 zn206 := con_of J9_ok (d := 7) (n := 1) (cs_cons (Con_le (by decide) (zt155)) (cs_cons (Con_le (by decide) (zt178)) (cs_cons (Con_le (by decide) (zt182)) (cs_nil)))) zk206
theorem zt207 : Con P9 9 zn207 := con_of J9_ok (d := 7) (n := 1) (cs_cons (Con_le (by decide) (zt155)) (cs_cons (Con_le (by decide) (zt178)) (cs_cons (Con_le (by decide) (zt182)) (cs_cons (Con_le (by decide) (zt183)) (cs_nil))))) zk207
theorem zt208 : Con P9 9 zn208 := con_of J9_ok (d := 7) (n := 1) (cs_cons (Con_le (by decide) (zt178)) (cs_cons (Con_le (by decide) (zt182)) (cs_nil))) zk208
theorem zt209 : Con P9 10 zn209 := con_of J9_ok (d := 7) (n := 2) (cs_cons (Con_le (by decide) (zt155)) (cs_cons (Con_le (by decide) (zt178)) (cs_cons (Con_le (by decide) (zt182)) (cs_cons (Con_le (by decide) (zt183)) (cs_nil))))) zk209
theorem zt210 : Con P9 9 zn210 := con_of J9_ok (d := 7) (n := 1) (cs_cons (Con_le (by decide) (zt178)) (cs_cons (Con_le (by decide) (zt182)) (cs_nil))) zk210
theorem zt211 : Con P9 9 zn211 := con_of J9_ok (d := 7) (n := 1) (cs_cons (Con_le (by decide) (zt178)) (cs_cons (Con_le (by decide) (zt182)) (cs_nil))) zk211
theorem zt212 : Con P9 10 zn212 := con_of J9_ok (d := 7) (n := 2) (cs_cons (Con_le (by decide) (zt155)) (cs_cons (Con_le (by decide) (zt178)) (cs_cons (Con_le (by decide) (zt182)) (cs_cons (Con_le (by decide) (zt183)) (cs_nil))))) zk212
theorem zt214 : Con P9 4 zn214 := con_of J9_ok (d := 3) (n := 0) (cs_cons (Con_le (by decide) (zt158)) (cs_cons (Con_le (by decide) (zt159)) (cs_cons (Con_le (by decide) (zt160)) (cs_nil)))) zk214
theorem zt215 : Con P9 5 zn215 := con_of J9_ok (d := 3) (n := 1) (cs_cons (Con_le (by decide) (zt158)) (cs_cons (Con_le (by decide) (zt159)) (cs_cons (Con_le (by decide) (zt161)) (cs_cons (Con_le (by decide) (zt164)) (cs_nil))))) zk215
theorem zt216 : Con P9 5 zn216 := con_of J9_ok (d := 3) (n := 1) (cs_cons (Con_le (by decide) (zt156)) (cs_cons (Con_le (by decide) (zt158)) (cs_cons (Con_le (by decide) (zt159)) (cs_nil)))) zk216
theorem zt217 : Con P9 5 zn217 := con_of J9_ok (d := 3) (n := 1) (cs_cons (Con_le (by decide) (zt156)) (cs_cons (Con_le (by decide) (zt158)) (cs_cons (Con_le (by decide) (zt159)) (cs_cons (Con_le (by decide) (zt162)) (cs_nil))))) zk217
theorem zt218 : Con P9 7 zn218 := con_of J9_ok (d := 5) (n := 1) (cs_cons (Con_le (by decide) (zt156)) (cs_cons (Con_le (by decide) (zt157)) (cs_cons (Con_le (by decide) (zt214)) (cs_cons (Con_le (by decide) (zt215)) (cs_cons (Con_le (by decide) (zt216)) (cs_cons (Con_le (by decide) (zt217)) (cs_nil))))))) zk218
theorem zt219 : Con P9 9 zn219 := con_of J9_ok (d := 7) (n := 1) (cs_cons (Con_le (by decide) (zt156)) (cs_cons (Con_le (by decide) (zt218)) (cs_nil))) zk219
theorem zt220 (a213 : Con P9 1 zn213) : Con P9 5 zn220 := con_of J9_ok (d := 3) (n := 1) (cs_cons (Con_le (by decide) (zt156)) (cs_cons (Con_le (by decide) (zt157)) (cs_cons (Con_le (by decide) a213) (cs_nil)))) zk220
theorem zt221 (a213 : Con P9 1 zn213) : Con P9 7 zn221 := con_of J9_ok (d := 5) (n := 1) (cs_cons (Con_le (by decide) (zt156)) (cs_cons (Con_le (by decide) (zt220 a213)) (cs_nil))) zk221
theorem zt222 : Con P9 10 zn222 := con_of J9_ok (d := 9) (n := 0) (cs_cons (Con_le (by decide) (zt219)) (cs_nil)) zk222
