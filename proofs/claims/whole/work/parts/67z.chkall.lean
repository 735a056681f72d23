theorem chkM_all {m : Nat} (h1 : 1 ≤ m) (h2 : m < 261) : chkM m = true := ((Nat.lt_or_ge m 131).elim (fun _ => ((Nat.lt_or_ge m 66).elim (fun _ => ((Nat.lt_or_ge m 33).elim (fun _ => ((Nat.lt_or_ge m 17).elim (fun _ => ((Nat.lt_or_ge m 9).elim (fun _ => ((Nat.lt_or_ge m 5).elim (fun _ => ((Nat.lt_or_ge m 3).elim (fun _ => ((Nat.lt_or_ge m 2).elim (fun _ => (by have e : m = 1 := by omega
   rw [e]; exact chk_1)) (fun _ => (by have e : m = 2 := by omega
   rw [e]; exact chk_2)))) (fun _ => ((Nat.lt_or_ge m 4).elim (fun _ => (by have e : m = 3 := by omega
   rw [e]; exact chk_3)) (fun _ => (by have e : m = 4 := by omega
   rw [e]; exact chk_4)))))) (fun _ => ((Nat.lt_or_ge m 7).elim (fun _ => ((Nat.lt_or_ge m 6).elim (fun _ => (by have e : m = 5 := by omega
   rw [e]; exact chk_5)) (fun _ => (by have e : m = 6 := by omega
   rw [e]; exact chk_6)))) (fun _ => ((Nat.lt_or_ge m 8).elim (fun _ => (by have e : m = 7 := by omega
   rw [e]; exact chk_7)) (fun _ => (by have e : m = 8 := by omega
   rw [e]; exact chk_8)))))))) (fun _ => ((Nat.lt_or_ge m 13).elim (fun _ => ((Nat.lt_or_ge m 11).elim (fun _ => ((Nat.lt_or_ge m 10).elim (fun _ => (by have e : m = 9 := by omega
   rw [e]; exact chk_9)) (fun _ => (by have e : m = 10 := by omega
   rw [e]; exact chk_10)))) (fun _ => ((Nat.lt_or_ge m 12).elim (fun _ => (by have e : m = 11 := by omega
   rw [e]; exact chk_11)) (fun _ => (by have e : m = 12 := by omega
   rw [e]; exact chk_12)))))) (fun _ => ((Nat.lt_or_ge m 15).elim (fun _ => ((Nat.lt_or_ge m 14).elim (fun _ => (by have e : m = 13 := by omega
   rw [e]; exact chk_13)) (fun _ => (by have e : m = 14 := by omega
   rw [e]; exact chk_14)))) (fun _ => ((Nat.lt_or_ge m 16).elim (fun _ => (by have e : m = 15 := by omega
   rw [e]; exact chk_15)) (fun _ => (by have e : m = 16 := by omega
   rw [e]; exact chk_16)))))))))) (fun _ => ((Nat.lt_or_ge m 25).elim (fun _ => ((Nat.lt_or_ge m 21).elim (fun _ => ((Nat.lt_or_ge m 19).elim (fun _ => ((Nat.lt_or_ge m 18).elim (fun _ => (by have e : m = 17 := by omega
   rw [e]; exact chk_17)) (fun _ => (by have e : m = 18 := by omega
   rw [e]; exact chk_18)))) (fun _ => ((Nat.lt_or_ge m 20).elim (fun _ => (by have e : m = 19 := by omega
   rw [e]; exact chk_19)) (fun _ => (by have e : m = 20 := by omega
   rw [e]; exact chk_20)))))) (fun _ => ((Nat.lt_or_ge m 23).elim (fun _ => ((Nat.lt_or_ge m 22).elim (fun _ => (by have e : m = 21 := by omega
   rw [e]; exact chk_21)) (fun _ => (by have e : m = 22 := by omega
   rw [e]; exact chk_22)))) (fun _ => ((Nat.lt_or_ge m 24).elim (fun _ => (by have e : m = 23 := by omega
   rw [e]; exact chk_23)) (fun _ => (by have e : m = 24 := by omega
   rw [e]; exact chk_24)))))))) (fun _ => ((Nat.lt_or_ge m 29).elim (fun _ => ((Nat.lt_or_ge m 27).elim (fun _ => ((Nat.lt_or_ge m 26).elim (fun _ => (by have e : m = 25 := by omega
   rw [e]; exact chk_25)) (fun _ => (by have e : m = 26 := by omega
   rw [e]; exact chk_26)))) (fun _ => ((Nat.lt_or_ge m 28).elim (fun _ => (by have e : m = 27 := by omega
   rw [e]; exact chk_27)) (fun _ => (by have e : m = 28 := by omega
   rw [e]; exact chk_28)))))) (fun _ => ((Nat.lt_or_ge m 31).elim (fun _ => ((Nat.lt_or_ge m 30).elim (fun _ => (by have e : m = 29 := by omega
   rw [e]; exact chk_29)) (fun _ => (by have e : m = 30 := by omega
   rw [e]; exact chk_30)))) (fun _ => ((Nat.lt_or_ge m 32).elim (fun _ => (by have e : m = 31 := by omega
   rw [e]; exact chk_31)) (fun _ => (by have e : m = 32 := by omega
   rw [e]; exact chk_32)))))))))))) (fun _ => ((Nat.lt_or_ge m 49).elim (fun _ => ((Nat.lt_or_ge m 41).elim (fun _ => ((Nat.lt_or_ge m 37).elim (fun _ => ((Nat.lt_or_ge m 35).elim (fun _ => ((Nat.lt_or_ge m 34).elim (fun _ => (by have e : m = 33 := by omega
   rw [e]; exact chk_33)) (fun _ => (by have e : m = 34 := by omega
   rw [e]; exact chk_34)))) (fun _ => ((Nat.lt_or_ge m 36).elim (fun _ => (by have e : m = 35 := by omega
   rw [e]; exact chk_35)) (fun _ => (by have e : m = 36 := by omega
   rw [e]; exact chk_36)))))) (fun _ => ((Nat.lt_or_ge m 39).elim (fun _ => ((Nat.lt_or_ge m 38).elim (fun _ => (by have e : m = 37 := by omega
   rw [e]; exact chk_37)) (fun _ => (by have e : m = 38 := by omega
   rw [e]; exact chk_38)))) (fun _ => ((Nat.lt_or_ge m 40).elim (fun _ => (by have e : m = 39 := by omega
   rw [e]; exact chk_39)) (fun _ => (by have e : m = 40 := by omega
   rw [e]; exact chk_40)))))))) (fun _ => ((Nat.lt_or_ge m 45).elim (fun _ => ((Nat.lt_or_ge m 43).elim (fun _ => ((Nat.lt_or_ge m 42).elim (fun _ => (by have e : m = 41 := by omega
   rw [e]; exact chk_41)) (fun _ => (by have e : m = 42 := by omega
   rw [e]; exact chk_42)))) (fun _ => ((Nat.lt_or_ge m 44).elim (fun _ => (by have e : m = 43 := by omega
   rw [e]; exact chk_43)) (fun _ => (by have e : m = 44 := by omega
   rw [e]; exact chk_44)))))) (fun _ => ((Nat.lt_or_ge m 47).elim (fun _ => ((Nat.lt_or_ge m 46).elim (fun _ => (by have e : m = 45 := by omega
   rw [e]; exact chk_45)) (fun _ => (by have e : m = 46 := by omega
   rw [e]; exact chk_46)))) (fun _ => ((Nat.lt_or_ge m 48).elim (fun _ => (by have e : m = 47 := by omega
   rw [e]; exact chk_47)) (fun _ => (by have e : m = 48 := by omega
   rw [e]; exact chk_48)))))))))) (fun _ => ((Nat.lt_or_ge m 57).elim (fun _ => ((Nat.lt_or_ge m 53).elim (fun _ => ((Nat.lt_or_ge m 51).elim (fun _ => ((Nat.lt_or_ge m 50).elim (fun _ => (by have e : m = 49 := by omega
   rw [e]; exact chk_49)) (fun _ => (by have e : m = 50 := by omega
   rw [e]; exact chk_50)))) (fun _ => ((Nat.lt_or_ge m 52).elim (fun _ => (by have e : m = 51 := by omega
   rw [e]; exact chk_51)) (fun _ => (by have e : m = 52 := by omega
   rw [e]; exact chk_52)))))) (fun _ => ((Nat.lt_or_ge m 55).elim (fun _ => ((Nat.lt_or_ge m 54).elim (fun _ => (by have e : m = 53 := by omega
   rw [e]; exact chk_53)) (fun _ => (by have e : m = 54 := by omega
   rw [e]; exact chk_54)))) (fun _ => ((Nat.lt_or_ge m 56).elim (fun _ => (by have e : m = 55 := by omega
   rw [e]; exact chk_55)) (fun _ => (by have e : m = 56 := by omega
   rw [e]; exact chk_56)))))))) (fun _ => ((Nat.lt_or_ge m 61).elim (fun _ => ((Nat.lt_or_ge m 59).elim (fun _ => ((Nat.lt_or_ge m 58).elim (fun _ => (by have e : m = 57 := by omega
   rw [e]; exact chk_57)) (fun _ => (by have e : m = 58 := by omega
   rw [e]; exact chk_58)))) (fun _ => ((Nat.lt_or_ge m 60).elim (fun _ => (by have e : m = 59 := by omega
   rw [e]; exact chk_59)) (fun _ => (by have e : m = 60 := by omega
   rw [e]; exact chk_60)))))) (fun _ => ((Nat.lt_or_ge m 63).elim (fun _ => ((Nat.lt_or_ge m 62).elim (fun _ => (by have e : m = 61 := by omega
   rw [e]; exact chk_61)) (fun _ => (by have e : m = 62 := by omega
   rw [e]; exact chk_62)))) (fun _ => ((Nat.lt_or_ge m 64).elim (fun _ => (by have e : m = 63 := by omega
   rw [e]; exact chk_63)) (fun _ => ((Nat.lt_or_ge m 65).elim (fun _ => (by have e : m = 64 := by omega
   rw [e]; exact chk_64)) (fun _ => (by have e : m = 65 := by omega
   rw [e]; exact chk_65)))))))))))))))) (fun _ => ((Nat.lt_or_ge m 98).elim (fun _ => ((Nat.lt_or_ge m 82).elim (fun _ => ((Nat.lt_or_ge m 74).elim (fun _ => ((Nat.lt_or_ge m 70).elim (fun _ => ((Nat.lt_or_ge m 68).elim (fun _ => ((Nat.lt_or_ge m 67).elim (fun _ => (by have e : m = 66 := by omega
   rw [e]; exact chk_66)) (fun _ => (by have e : m = 67 := by omega
   rw [e]; exact chk_67)))) (fun _ => ((Nat.lt_or_ge m 69).elim (fun _ => (by have e : m = 68 := by omega
   rw [e]; exact chk_68)) (fun _ => (by have e : m = 69 := by omega
   rw [e]; exact chk_69)))))) (fun _ => ((Nat.lt_or_ge m 72).elim (fun _ => ((Nat.lt_or_ge m 71).elim (fun _ => (by have e : m = 70 := by omega
   rw [e]; exact chk_70)) (fun _ => (by have e : m = 71 := by omega
   rw [e]; exact chk_71)))) (fun _ => ((Nat.lt_or_ge m 73).elim (fun _ => (by have e : m = 72 := by omega
   rw [e]; exact chk_72)) (fun _ => (by have e : m = 73 := by omega
   rw [e]; exact chk_73)))))))) (fun _ => ((Nat.lt_or_ge m 78).elim (fun _ => ((Nat.lt_or_ge m 76).elim (fun _ => ((Nat.lt_or_ge m 75).elim (fun _ => (by have e : m = 74 := by omega
   rw [e]; exact chk_74)) (fun _ => (by have e : m = 75 := by omega
   rw [e]; exact chk_75)))) (fun _ => ((Nat.lt_or_ge m 77).elim (fun _ => (by have e : m = 76 := by omega
   rw [e]; exact chk_76)) (fun _ => (by have e : m = 77 := by omega
   rw [e]; exact chk_77)))))) (fun _ => ((Nat.lt_or_ge m 80).elim (fun _ => ((Nat.lt_or_ge m 79).elim (fun _ => (by have e : m = 78 := by omega
   rw [e]; exact chk_78)) (fun _ => (by have e : m = 79 := by omega
   rw [e]; exact chk_79)))) (fun _ => ((Nat.lt_or_ge m 81).elim (fun _ => (by have e : m = 80 := by omega
   rw [e]; exact chk_80)) (fun _ => (by have e : m = 81 := by omega
   rw [e]; exact chk_81)))))))))) (fun _ => ((Nat.lt_or_ge m 90).elim (fun _ => ((Nat.lt_or_ge m 86).elim (fun _ => ((Nat.lt_or_ge m 84).elim (fun _ => ((Nat.lt_or_ge m 83).elim (fun _ => (by have e : m = 82 := by omega
   rw [e]; exact chk_82)) (fun _ => (by have e : m = 83 := by omega
   rw [e]; exact chk_83)))) (fun _ => ((Nat.lt_or_ge m 85).elim (fun _ => (by have e : m = 84 := by omega
   rw [e]; exact chk_84)) (fun _ => (by have e : m = 85 := by omega
   rw [e]; exact chk_85)))))) (fun _ => ((Nat.lt_or_ge m 88).elim (fun _ => ((Nat.lt_or_ge m 87).elim (fun _ => (by have e : m = 86 := by omega
   rw [e]; exact chk_86)) (fun _ => (by have e : m = 87 := by omega
   rw [e]; exact chk_87)))) (fun _ => ((Nat.lt_or_ge m 89).elim (fun _ => (by have e : m = 88 := by omega
   rw [e]; exact chk_88)) (fun _ => (by have e : m = 89 := by omega
   rw [e]; exact chk_89)))))))) (fun _ => ((Nat.lt_or_ge m 94).elim (fun _ => ((Nat.lt_or_ge m 92).elim (fun _ => ((Nat.lt_or_ge m 91).elim (fun _ => (by have e : m = 90 := by omega
   rw [e]; exact chk_90)) (fun _ => (by have e : m = 91 := by omega
   rw [e]; exact chk_91)))) (fun _ => ((Nat.lt_or_ge m 93).elim (fun _ => (by have e : m = 92 := by omega
   rw [e]; exact chk_92)) (fun _ => (by have e : m = 93 := by omega
   rw [e]; exact chk_93)))))) (fun _ => ((Nat.lt_or_ge m 96).elim (fun _ => ((Nat.lt_or_ge m 95).elim (fun _ => (by have e : m = 94 := by omega
   rw [e]; exact chk_94)) (fun _ => (by have e : m = 95 := by omega
   rw [e]; exact chk_95)))) (fun _ => ((Nat.lt_or_ge m 97).elim (fun _ => (by have e : m = 96 := by omega
   rw [e]; exact chk_96)) (fun _ => (by have e : m = 97 := by omega
   rw [e]; exact chk_97)))))))))))) (fun _ => ((Nat.lt_or_ge m 114).elim (fun _ => ((Nat.lt_or_ge m 106).elim (fun _ => ((Nat.lt_or_ge m 102).elim (fun _ => ((Nat.lt_or_ge m 100).elim (fun _ => ((Nat.lt_or_ge m 99).elim (fun _ => (by have e : m = 98 := by omega
   rw [e]; exact chk_98)) (fun _ => (by have e : m = 99 := by omega
   rw [e]; exact chk_99)))) (fun _ => ((Nat.lt_or_ge m 101).elim (fun _ => (by have e : m = 100 := by omega
   rw [e]; exact chk_100)) (fun _ => (by have e : m = 101 := by omega
   rw [e]; exact chk_101)))))) (fun _ => ((Nat.lt_or_ge m 104).elim (fun _ => ((Nat.lt_or_ge m 103).elim (fun _ => (by have e : m = 102 := by omega
   rw [e]; exact chk_102)) (fun _ => (by have e : m = 103 := by omega
   rw [e]; exact chk_103)))) (fun _ => ((Nat.lt_or_ge m 105).elim (fun _ => (by have e : m = 104 := by omega
   rw [e]; exact chk_104)) (fun _ => (by have e : m = 105 := by omega
   rw [e]; exact chk_105)))))))) (fun _ => ((Nat.lt_or_ge m 110).elim (fun _ => ((Nat.lt_or_ge m 108).elim (fun _ => ((Nat.lt_or_ge m 107).elim (fun _ => (by have e : m = 106 := by omega
   rw [e]; exact chk_106)) (fun _ => (by have e : m = 107 := by omega
   rw [e]; exact chk_107)))) (fun _ => ((Nat.lt_or_ge m 109).elim (fun _ => (by have e : m = 108 := by omega
   rw [e]; exact chk_108)) (fun _ => (by have e : m = 109 := by omega
   rw [e]; exact chk_109)))))) (fun _ => ((Nat.lt_or_ge m 112).elim (fun _ => ((Nat.lt_or_ge m 111).elim (fun _ => (by have e : m = 110 := by omega
   rw [e]; exact chk_110)) (fun _ => (by have e : m = 111 := by omega
   rw [e]; exact chk_111)))) (fun _ => ((Nat.lt_or_ge m 113).elim (fun _ => (by have e : m = 112 := by omega
   rw [e]; exact chk_112)) (fun _ => (by have e : m = 113 := by omega
   rw [e]; exact chk_113)))))))))) (fun _ => ((Nat.lt_or_ge m 122).elim (fun _ => ((Nat.lt_or_ge m 118).elim (fun _ => ((Nat.lt_or_ge m 116).elim (fun _ => ((Nat.lt_or_ge m 115).elim (fun _ => (by have e : m = 114 := by omega
   rw [e]; exact chk_114)) (fun _ => (by have e : m = 115 := by omega
   rw [e]; exact chk_115)))) (fun _ => ((Nat.lt_or_ge m 117).elim (fun _ => (by have e : m = 116 := by omega
   rw [e]; exact chk_116)) (fun _ => (by have e : m = 117 := by omega
   rw [e]; exact chk_117)))))) (fun _ => ((Nat.lt_or_ge m 120).elim (fun _ => ((Nat.lt_or_ge m 119).elim (fun _ => (by have e : m = 118 := by omega
   rw [e]; exact chk_118)) (fun _ => (by have e : m = 119 := by omega
   rw [e]; exact chk_119)))) (fun _ => ((Nat.lt_or_ge m 121).elim (fun _ => (by have e : m = 120 := by omega
   rw [e]; exact chk_120)) (fun _ => (by have e : m = 121 := by omega
   rw [e]; exact chk_121)))))))) (fun _ => ((Nat.lt_or_ge m 126).elim (fun _ => ((Nat.lt_or_ge m 124).elim (fun _ => ((Nat.lt_or_ge m 123).elim (fun _ => (by have e : m = 122 := by omega
   rw [e]; exact chk_122)) (fun _ => (by have e : m = 123 := by omega
   rw [e]; exact chk_123)))) (fun _ => ((Nat.lt_or_ge m 125).elim (fun _ => (by have e : m = 124 := by omega
   rw [e]; exact chk_124)) (fun _ => (by have e : m = 125 := by omega
   rw [e]; exact chk_125)))))) (fun _ => ((Nat.lt_or_ge m 128).elim (fun _ => ((Nat.lt_or_ge m 127).elim (fun _ => (by have e : m = 126 := by omega
   rw [e]; exact chk_126)) (fun _ => (by have e : m = 127 := by omega
   rw [e]; exact chk_127)))) (fun _ => ((Nat.lt_or_ge m 129).elim (fun _ => (by have e : m = 128 := by omega
   rw [e]; exact chk_128)) (fun _ => ((Nat.lt_or_ge m 130).elim (fun _ => (by have e : m = 129 := by omega
   rw [e]; exact chk_129)) (fun _ => (by have e : m = 130 := by omega
   rw [e]; exact chk_130)))))))))))))))))) (fun _ => ((Nat.lt_or_ge m 196).elim (fun _ => ((Nat.lt_or_ge m 163).elim (fun _ => ((Nat.lt_or_ge m 147).elim (fun _ => ((Nat.lt_or_ge m 139).elim (fun _ => ((Nat.lt_or_ge m 135).elim (fun _ => ((Nat.lt_or_ge m 133).elim (fun _ => ((Nat.lt_or_ge m 132).elim (fun _ => (by have e : m = 131 := by omega
   rw [e]; exact chk_131)) (fun _ => (by have e : m = 132 := by omega
   rw [e]; exact chk_132)))) (fun _ => ((Nat.lt_or_ge m 134).elim (fun _ => (by have e : m = 133 := by omega
   rw [e]; exact chk_133)) (fun _ => (by have e : m = 134 := by omega
   rw [e]; exact chk_134)))))) (fun _ => ((Nat.lt_or_ge m 137).elim (fun _ => ((Nat.lt_or_ge m 136).elim (fun _ => (by have e : m = 135 := by omega
   rw [e]; exact chk_135)) (fun _ => (by have e : m = 136 := by omega
   rw [e]; exact chk_136)))) (fun _ => ((Nat.lt_or_ge m 138).elim (fun _ => (by have e : m = 137 := by omega
   rw [e]; exact chk_137)) (fun _ => (by have e : m = 138 := by omega
   rw [e]; exact chk_138)))))))) (fun _ => ((Nat.lt_or_ge m 143).elim (fun _ => ((Nat.lt_or_ge m 141).elim (fun _ => ((Nat.lt_or_ge m 140).elim (fun _ => (by have e : m = 139 := by omega
   rw [e]; exact chk_139)) (fun _ => (by have e : m = 140 := by omega
   rw [e]; exact chk_140)))) (fun _ => ((Nat.lt_or_ge m 142).elim (fun _ => (by have e : m = 141 := by omega
   rw [e]; exact chk_141)) (fun _ => (by have e : m = 142 := by omega
   rw [e]; exact chk_142)))))) (fun _ => ((Nat.lt_or_ge m 145).elim (fun _ => ((Nat.lt_or_ge m 144).elim (fun _ => (by have e : m = 143 := by omega
   rw [e]; exact chk_143)) (fun _ => (by have e : m = 144 := by omega
   rw [e]; exact chk_144)))) (fun _ => ((Nat.lt_or_ge m 146).elim (fun _ => (by have e : m = 145 := by omega
   rw [e]; exact chk_145)) (fun _ => (by have e : m = 146 := by omega
   rw [e]; exact chk_146)))))))))) (fun _ => ((Nat.lt_or_ge m 155).elim (fun _ => ((Nat.lt_or_ge m 151).elim (fun _ => ((Nat.lt_or_ge m 149).elim (fun _ => ((Nat.lt_or_ge m 148).elim (fun _ => (by have e : m = 147 := by omega
   rw [e]; exact chk_147)) (fun _ => (by have e : m = 148 := by omega
   rw [e]; exact chk_148)))) (fun _ => ((Nat.lt_or_ge m 150).elim (fun _ => (by have e : m = 149 := by omega
   rw [e]; exact chk_149)) (fun _ => (by have e : m = 150 := by omega
   rw [e]; exact chk_150)))))) (fun _ => ((Nat.lt_or_ge m 153).elim (fun _ => ((Nat.lt_or_ge m 152).elim (fun _ => (by have e : m = 151 := by omega
   rw [e]; exact chk_151)) (fun _ => (by have e : m = 152 := by omega
   rw [e]; exact chk_152)))) (fun _ => ((Nat.lt_or_ge m 154).elim (fun _ => (by have e : m = 153 := by omega
   rw [e]; exact chk_153)) (fun _ => (by have e : m = 154 := by omega
   rw [e]; exact chk_154)))))))) (fun _ => ((Nat.lt_or_ge m 159).elim (fun _ => ((Nat.lt_or_ge m 157).elim (fun _ => ((Nat.lt_or_ge m 156).elim (fun _ => (by have e : m = 155 := by omega
   rw [e]; exact chk_155)) (fun _ => (by have e : m = 156 := by omega
   rw [e]; exact chk_156)))) (fun _ => ((Nat.lt_or_ge m 158).elim (fun _ => (by have e : m = 157 := by omega
   rw [e]; exact chk_157)) (fun _ => (by have e : m = 158 := by omega
   rw [e]; exact chk_158)))))) (fun _ => ((Nat.lt_or_ge m 161).elim (fun _ => ((Nat.lt_or_ge m 160).elim (fun _ => (by have e : m = 159 := by omega
   rw [e]; exact chk_159)) (fun _ => (by have e : m = 160 := by omega
   rw [e]; exact chk_160)))) (fun _ => ((Nat.lt_or_ge m 162).elim (fun _ => (by have e : m = 161 := by omega
   rw [e]; exact chk_161)) (fun _ => (by have e : m = 162 := by omega
   rw [e]; exact chk_162)))))))))))) (fun _ => ((Nat.lt_or_ge m 179).elim (fun _ => ((Nat.lt_or_ge m 171).elim (fun _ => ((Nat.lt_or_ge m 167).elim (fun _ => ((Nat.lt_or_ge m 165).elim (fun _ => ((Nat.lt_or_ge m 164).elim (fun _ => (by have e : m = 163 := by omega
   rw [e]; exact chk_163)) (fun _ => (by have e : m = 164 := by omega
   rw [e]; exact chk_164)))) (fun _ => ((Nat.lt_or_ge m 166).elim (fun _ => (by have e : m = 165 := by omega
   rw [e]; exact chk_165)) (fun _ => (by have e : m = 166 := by omega
   rw [e]; exact chk_166)))))) (fun _ => ((Nat.lt_or_ge m 169).elim (fun _ => ((Nat.lt_or_ge m 168).elim (fun _ => (by have e : m = 167 := by omega
   rw [e]; exact chk_167)) (fun _ => (by have e : m = 168 := by omega
   rw [e]; exact chk_168)))) (fun _ => ((Nat.lt_or_ge m 170).elim (fun _ => (by have e : m = 169 := by omega
   rw [e]; exact chk_169)) (fun _ => (by have e : m = 170 := by omega
   rw [e]; exact chk_170)))))))) (fun _ => ((Nat.lt_or_ge m 175).elim (fun _ => ((Nat.lt_or_ge m 173).elim (fun _ => ((Nat.lt_or_ge m 172).elim (fun _ => (by have e : m = 171 := by omega
   rw [e]; exact chk_171)) (fun _ => (by have e : m = 172 := by omega
   rw [e]; exact chk_172)))) (fun _ => ((Nat.lt_or_ge m 174).elim (fun _ => (by have e : m = 173 := by omega
   rw [e]; exact chk_173)) (fun _ => (by have e : m = 174 := by omega
   rw [e]; exact chk_174)))))) (fun _ => ((Nat.lt_or_ge m 177).elim (fun _ => ((Nat.lt_or_ge m 176).elim (fun _ => (by have e : m = 175 := by omega
   rw [e]; exact chk_175)) (fun _ => (by have e : m = 176 := by omega
   rw [e]; exact chk_176)))) (fun _ => ((Nat.lt_or_ge m 178).elim (fun _ => (by have e : m = 177 := by omega
   rw [e]; exact chk_177)) (fun _ => (by have e : m = 178 := by omega
   rw [e]; exact chk_178)))))))))) (fun _ => ((Nat.lt_or_ge m 187).elim (fun _ => ((Nat.lt_or_ge m 183).elim (fun _ => ((Nat.lt_or_ge m 181).elim (fun _ => ((Nat.lt_or_ge m 180).elim (fun _ => (by have e : m = 179 := by omega
   rw [e]; exact chk_179)) (fun _ => (by have e : m = 180 := by omega
   rw [e]; exact chk_180)))) (fun _ => ((Nat.lt_or_ge m 182).elim (fun _ => (by have e : m = 181 := by omega
   rw [e]; exact chk_181)) (fun _ => (by have e : m = 182 := by omega
   rw [e]; exact chk_182)))))) (fun _ => ((Nat.lt_or_ge m 185).elim (fun _ => ((Nat.lt_or_ge m 184).elim (fun _ => (by have e : m = 183 := by omega
   rw [e]; exact chk_183)) (fun _ => (by have e : m = 184 := by omega
   rw [e]; exact chk_184)))) (fun _ => ((Nat.lt_or_ge m 186).elim (fun _ => (by have e : m = 185 := by omega
   rw [e]; exact chk_185)) (fun _ => (by have e : m = 186 := by omega
   rw [e]; exact chk_186)))))))) (fun _ => ((Nat.lt_or_ge m 191).elim (fun _ => ((Nat.lt_or_ge m 189).elim (fun _ => ((Nat.lt_or_ge m 188).elim (fun _ => (by have e : m = 187 := by omega
   rw [e]; exact chk_187)) (fun _ => (by have e : m = 188 := by omega
   rw [e]; exact chk_188)))) (fun _ => ((Nat.lt_or_ge m 190).elim (fun _ => (by have e : m = 189 := by omega
   rw [e]; exact chk_189)) (fun _ => (by have e : m = 190 := by omega
   rw [e]; exact chk_190)))))) (fun _ => ((Nat.lt_or_ge m 193).elim (fun _ => ((Nat.lt_or_ge m 192).elim (fun _ => (by have e : m = 191 := by omega
   rw [e]; exact chk_191)) (fun _ => (by have e : m = 192 := by omega
   rw [e]; exact chk_192)))) (fun _ => ((Nat.lt_or_ge m 194).elim (fun _ => (by have e : m = 193 := by omega
   rw [e]; exact chk_193)) (fun _ => ((Nat.lt_or_ge m 195).elim (fun _ => (by have e : m = 194 := by omega
   rw [e]; exact chk_194)) (fun _ => (by have e : m = 195 := by omega
   rw [e]; exact chk_195)))))))))))))))) (fun _ => ((Nat.lt_or_ge m 228).elim (fun _ => ((Nat.lt_or_ge m 212).elim (fun _ => ((Nat.lt_or_ge m 204).elim (fun _ => ((Nat.lt_or_ge m 200).elim (fun _ => ((Nat.lt_or_ge m 198).elim (fun _ => ((Nat.lt_or_ge m 197).elim (fun _ => (by have e : m = 196 := by omega
   rw [e]; exact chk_196)) (fun _ => (by have e : m = 197 := by omega
   rw [e]; exact chk_197)))) (fun _ => ((Nat.lt_or_ge m 199).elim (fun _ => (by have e : m = 198 := by omega
   rw [e]; exact chk_198)) (fun _ => (by have e : m = 199 := by omega
   rw [e]; exact chk_199)))))) (fun _ => ((Nat.lt_or_ge m 202).elim (fun _ => ((Nat.lt_or_ge m 201).elim (fun _ => (by have e : m = 200 := by omega
   rw [e]; exact chk_200)) (fun _ => (by have e : m = 201 := by omega
   rw [e]; exact chk_201)))) (fun _ => ((Nat.lt_or_ge m 203).elim (fun _ => (by have e : m = 202 := by omega
   rw [e]; exact chk_202)) (fun _ => (by have e : m = 203 := by omega
   rw [e]; exact chk_203)))))))) (fun _ => ((Nat.lt_or_ge m 208).elim (fun _ => ((Nat.lt_or_ge m 206).elim (fun _ => ((Nat.lt_or_ge m 205).elim (fun _ => (by have e : m = 204 := by omega
   rw [e]; exact chk_204)) (fun _ => (by have e : m = 205 := by omega
   rw [e]; exact chk_205)))) (fun _ => ((Nat.lt_or_ge m 207).elim (fun _ => (by have e : m = 206 := by omega
   rw [e]; exact chk_206)) (fun _ => (by have e : m = 207 := by omega
   rw [e]; exact chk_207)))))) (fun _ => ((Nat.lt_or_ge m 210).elim (fun _ => ((Nat.lt_or_ge m 209).elim (fun _ => (by have e : m = 208 := by omega
   rw [e]; exact chk_208)) (fun _ => (by have e : m = 209 := by omega
   rw [e]; exact chk_209)))) (fun _ => ((Nat.lt_or_ge m 211).elim (fun _ => (by have e : m = 210 := by omega
   rw [e]; exact chk_210)) (fun _ => (by have e : m = 211 := by omega
   rw [e]; exact chk_211)))))))))) (fun _ => ((Nat.lt_or_ge m 220).elim (fun _ => ((Nat.lt_or_ge m 216).elim (fun _ => ((Nat.lt_or_ge m 214).elim (fun _ => ((Nat.lt_or_ge m 213).elim (fun _ => (by have e : m = 212 := by omega
   rw [e]; exact chk_212)) (fun _ => (by have e : m = 213 := by omega
   rw [e]; exact chk_213)))) (fun _ => ((Nat.lt_or_ge m 215).elim (fun _ => (by have e : m = 214 := by omega
   rw [e]; exact chk_214)) (fun _ => (by have e : m = 215 := by omega
   rw [e]; exact chk_215)))))) (fun _ => ((Nat.lt_or_ge m 218).elim (fun _ => ((Nat.lt_or_ge m 217).elim (fun _ => (by have e : m = 216 := by omega
   rw [e]; exact chk_216)) (fun _ => (by have e : m = 217 := by omega
   rw [e]; exact chk_217)))) (fun _ => ((Nat.lt_or_ge m 219).elim (fun _ => (by have e : m = 218 := by omega
   rw [e]; exact chk_218)) (fun _ => (by have e : m = 219 := by omega
   rw [e]; exact chk_219)))))))) (fun _ => ((Nat.lt_or_ge m 224).elim (fun _ => ((Nat.lt_or_ge m 222).elim (fun _ => ((Nat.lt_or_ge m 221).elim (fun _ => (by have e : m = 220 := by omega
   rw [e]; exact chk_220)) (fun _ => (by have e : m = 221 := by omega
   rw [e]; exact chk_221)))) (fun _ => ((Nat.lt_or_ge m 223).elim (fun _ => (by have e : m = 222 := by omega
   rw [e]; exact chk_222)) (fun _ => (by have e : m = 223 := by omega
   rw [e]; exact chk_223)))))) (fun _ => ((Nat.lt_or_ge m 226).elim (fun _ => ((Nat.lt_or_ge m 225).elim (fun _ => (by have e : m = 224 := by omega
   rw [e]; exact chk_224)) (fun _ => (by have e : m = 225 := by omega
   rw [e]; exact chk_225)))) (fun _ => ((Nat.lt_or_ge m 227).elim (fun _ => (by have e : m = 226 := by omega
   rw [e]; exact chk_226)) (fun _ => (by have e : m = 227 := by omega
   rw [e]; exact chk_227)))))))))))) (fun _ => ((Nat.lt_or_ge m 244).elim (fun _ => ((Nat.lt_or_ge m 236).elim (fun _ => ((Nat.lt_or_ge m 232).elim (fun _ => ((Nat.lt_or_ge m 230).elim (fun _ => ((Nat.lt_or_ge m 229).elim (fun _ => (by have e : m = 228 := by omega
   rw [e]; exact chk_228)) (fun _ => (by have e : m = 229 := by omega
   rw [e]; exact chk_229)))) (fun _ => ((Nat.lt_or_ge m 231).elim (fun _ => (by have e : m = 230 := by omega
   rw [e]; exact chk_230)) (fun _ => (by have e : m = 231 := by omega
   rw [e]; exact chk_231)))))) (fun _ => ((Nat.lt_or_ge m 234).elim (fun _ => ((Nat.lt_or_ge m 233).elim (fun _ => (by have e : m = 232 := by omega
   rw [e]; exact chk_232)) (fun _ => (by have e : m = 233 := by omega
   rw [e]; exact chk_233)))) (fun _ => ((Nat.lt_or_ge m 235).elim (fun _ => (by have e : m = 234 := by omega
   rw [e]; exact chk_234)) (fun _ => (by have e : m = 235 := by omega
   rw [e]; exact chk_235)))))))) (fun _ => ((Nat.lt_or_ge m 240).elim (fun _ => ((Nat.lt_or_ge m 238).elim (fun _ => ((Nat.lt_or_ge m 237).elim (fun _ => (by have e : m = 236 := by omega
   rw [e]; exact chk_236)) (fun _ => (by have e : m = 237 := by omega
   rw [e]; exact chk_237)))) (fun _ => ((Nat.lt_or_ge m 239).elim (fun _ => (by have e : m = 238 := by omega
   rw [e]; exact chk_238)) (fun _ => (by have e : m = 239 := by omega
   rw [e]; exact chk_239)))))) (fun _ => ((Nat.lt_or_ge m 242).elim (fun _ => ((Nat.lt_or_ge m 241).elim (fun _ => (by have e : m = 240 := by omega
   rw [e]; exact chk_240)) (fun _ => (by have e : m = 241 := by omega
   rw [e]; exact chk_241)))) (fun _ => ((Nat.lt_or_ge m 243).elim (fun _ => (by have e : m = 242 := by omega
   rw [e]; exact chk_242)) (fun _ => (by have e : m = 243 := by omega
   rw [e]; exact chk_243)))))))))) (fun _ => ((Nat.lt_or_ge m 252).elim (fun _ => ((Nat.lt_or_ge m 248).elim (fun _ => ((Nat.lt_or_ge m 246).elim (fun _ => ((Nat.lt_or_ge m 245).elim (fun _ => (by have e : m = 244 := by omega
   rw [e]; exact chk_244)) (fun _ => (by have e : m = 245 := by omega
   rw [e]; exact chk_245)))) (fun _ => ((Nat.lt_or_ge m 247).elim (fun _ => (by have e : m = 246 := by omega
   rw [e]; exact chk_246)) (fun _ => (by have e : m = 247 := by omega
   rw [e]; exact chk_247)))))) (fun _ => ((Nat.lt_or_ge m 250).elim (fun _ => ((Nat.lt_or_ge m 249).elim (fun _ => (by have e : m = 248 := by omega
   rw [e]; exact chk_248)) (fun _ => (by have e : m = 249 := by omega
   rw [e]; exact chk_249)))) (fun _ => ((Nat.lt_or_ge m 251).elim (fun _ => (by have e : m = 250 := by omega
   rw [e]; exact chk_250)) (fun _ => (by have e : m = 251 := by omega
   rw [e]; exact chk_251)))))))) (fun _ => ((Nat.lt_or_ge m 256).elim (fun _ => ((Nat.lt_or_ge m 254).elim (fun _ => ((Nat.lt_or_ge m 253).elim (fun _ => (by have e : m = 252 := by omega
   rw [e]; exact chk_252)) (fun _ => (by have e : m = 253 := by omega
   rw [e]; exact chk_253)))) (fun _ => ((Nat.lt_or_ge m 255).elim (fun _ => (by have e : m = 254 := by omega
   rw [e]; exact chk_254)) (fun _ => (by have e : m = 255 := by omega
   rw [e]; exact chk_255)))))) (fun _ => ((Nat.lt_or_ge m 258).elim (fun _ => ((Nat.lt_or_ge m 257).elim (fun _ => (by have e : m = 256 := by omega
   rw [e]; exact chk_256)) (fun _ => (by have e : m = 257 := by omega
   rw [e]; exact chk_257)))) (fun _ => ((Nat.lt_or_ge m 259).elim (fun _ => (by have e : m = 258 := by omega
   rw [e]; exact chk_258)) (fun _ => ((Nat.lt_or_ge m 260).elim (fun _ => (by have e : m = 259 := by omega
   rw [e]; exact chk_259)) (fun _ => (by have e : m = 260 := by omega
   rw [e]; exact chk_260)))))))))))))))))))
theorem chkL_all {pc : Nat} (h2 : pc < 860) : chk 0 pc = true := ((Nat.lt_or_ge pc 420).elim (fun _ => ((Nat.lt_or_ge pc 200).elim (fun _ => ((Nat.lt_or_ge pc 100).elim (fun _ => ((Nat.lt_or_ge pc 40).elim (fun _ => ((Nat.lt_or_ge pc 20).elim (fun _ => (List.all_eq_true.mp chkL_0 pc (List.mem_range'_1.mpr ⟨by omega, by omega⟩))) (fun _ => (List.all_eq_true.mp chkL_1 pc (List.mem_range'_1.mpr ⟨by omega, by omega⟩))))) (fun _ => ((Nat.lt_or_ge pc 60).elim (fun _ => (List.all_eq_true.mp chkL_2 pc (List.mem_range'_1.mpr ⟨by omega, by omega⟩))) (fun _ => ((Nat.lt_or_ge pc 80).elim (fun _ => (List.all_eq_true.mp chkL_3 pc (List.mem_range'_1.mpr ⟨by omega, by omega⟩))) (fun _ => (List.all_eq_true.mp chkL_4 pc (List.mem_range'_1.mpr ⟨by omega, by omega⟩))))))))) (fun _ => ((Nat.lt_or_ge pc 140).elim (fun _ => ((Nat.lt_or_ge pc 120).elim (fun _ => (List.all_eq_true.mp chkL_5 pc (List.mem_range'_1.mpr ⟨by omega, by omega⟩))) (fun _ => (List.all_eq_true.mp chkL_6 pc (List.mem_range'_1.mpr ⟨by omega, by omega⟩))))) (fun _ => ((Nat.lt_or_ge pc 160).elim (fun _ => (List.all_eq_true.mp chkL_7 pc (List.mem_range'_1.mpr ⟨by omega, by omega⟩))) (fun _ => ((Nat.lt_or_ge pc 180).elim (fun _ => (List.all_eq_true.mp chkL_8 pc (List.mem_range'_1.mpr ⟨by omega, by omega⟩))) (fun _ => (List.all_eq_true.mp chkL_9 pc (List.mem_range'_1.mpr ⟨by omega, by omega⟩))))))))))) (fun _ => ((Nat.lt_or_ge pc 300).elim (fun _ => ((Nat.lt_or_ge pc 240).elim (fun _ => ((Nat.lt_or_ge pc 220).elim (fun _ => (List.all_eq_true.mp chkL_10 pc (List.mem_range'_1.mpr ⟨by omega, by omega⟩))) (fun _ => (List.all_eq_true.mp chkL_11 pc (List.mem_range'_1.mpr ⟨by omega, by omega⟩))))) (fun _ => ((Nat.lt_or_ge pc 260).elim (fun _ => (List.all_eq_true.mp chkL_12 pc (List.mem_range'_1.mpr ⟨by omega, by omega⟩))) (fun _ => ((Nat.lt_or_ge pc 280).elim (fun _ => (List.all_eq_true.mp chkL_13 pc (List.mem_range'_1.mpr ⟨by omega, by omega⟩))) (fun _ => (List.all_eq_true.mp chkL_14 pc (List.mem_range'_1.mpr ⟨by omega, by omega⟩))))))))) (fun _ => ((Nat.lt_or_ge pc 360).elim (fun _ => ((Nat.lt_or_ge pc 320).elim (fun _ => (List.all_eq_true.mp chkL_15 pc (List.mem_range'_1.mpr ⟨by omega, by omega⟩))) (fun _ => ((Nat.lt_or_ge pc 340).elim (fun _ => (List.all_eq_true.mp chkL_16 pc (List.mem_range'_1.mpr ⟨by omega, by omega⟩))) (fun _ => (List.all_eq_true.mp chkL_17 pc (List.mem_range'_1.mpr ⟨by omega, by omega⟩))))))) (fun _ => ((Nat.lt_or_ge pc 380).elim (fun _ => (List.all_eq_true.mp chkL_18 pc (List.mem_range'_1.mpr ⟨by omega, by omega⟩))) (fun _ => ((Nat.lt_or_ge pc 400).elim (fun _ => (List.all_eq_true.mp chkL_19 pc (List.mem_range'_1.mpr ⟨by omega, by omega⟩))) (fun _ => (List.all_eq_true.mp chkL_20 pc (List.mem_range'_1.mpr ⟨by omega, by omega⟩))))))))))))) (fun _ => ((Nat.lt_or_ge pc 640).elim (fun _ => ((Nat.lt_or_ge pc 520).elim (fun _ => ((Nat.lt_or_ge pc 460).elim (fun _ => ((Nat.lt_or_ge pc 440).elim (fun _ => (List.all_eq_true.mp chkL_21 pc (List.mem_range'_1.mpr ⟨by omega, by omega⟩))) (fun _ => (List.all_eq_true.mp chkL_22 pc (List.mem_range'_1.mpr ⟨by omega, by omega⟩))))) (fun _ => ((Nat.lt_or_ge pc 480).elim (fun _ => (List.all_eq_true.mp chkL_23 pc (List.mem_range'_1.mpr ⟨by omega, by omega⟩))) (fun _ => ((Nat.lt_or_ge pc 500).elim (fun _ => (List.all_eq_true.mp chkL_24 pc (List.mem_range'_1.mpr ⟨by omega, by omega⟩))) (fun _ => (List.all_eq_true.mp chkL_25 pc (List.mem_range'_1.mpr ⟨by omega, by omega⟩))))))))) (fun _ => ((Nat.lt_or_ge pc 580).elim (fun _ => ((Nat.lt_or_ge pc 540).elim (fun _ => (List.all_eq_true.mp chkL_26 pc (List.mem_range'_1.mpr ⟨by omega, by omega⟩))) (fun _ => ((Nat.lt_or_ge pc 560).elim (fun _ => (List.all_eq_true.mp chkL_27 pc (List.mem_range'_1.mpr ⟨by omega, by omega⟩))) (fun _ => (List.all_eq_true.mp chkL_28 pc (List.mem_range'_1.mpr ⟨by omega, by omega⟩))))))) (fun _ => ((Nat.lt_or_ge pc 600).elim (fun _ => (List.all_eq_true.mp chkL_29 pc (List.mem_range'_1.mpr ⟨by omega, by omega⟩))) (fun _ => ((Nat.lt_or_ge pc 620).elim (fun _ => (List.all_eq_true.mp chkL_30 pc (List.mem_range'_1.mpr ⟨by omega, by omega⟩))) (fun _ => (List.all_eq_true.mp chkL_31 pc (List.mem_range'_1.mpr ⟨by omega, by omega⟩))))))))))) (fun _ => ((Nat.lt_or_ge pc 740).elim (fun _ => ((Nat.lt_or_ge pc 680).elim (fun _ => ((Nat.lt_or_ge pc 660).elim (fun _ => (List.all_eq_true.mp chkL_32 pc (List.mem_range'_1.mpr ⟨by omega, by omega⟩))) (fun _ => (List.all_eq_true.mp chkL_33 pc (List.mem_range'_1.mpr ⟨by omega, by omega⟩))))) (fun _ => ((Nat.lt_or_ge pc 700).elim (fun _ => (List.all_eq_true.mp chkL_34 pc (List.mem_range'_1.mpr ⟨by omega, by omega⟩))) (fun _ => ((Nat.lt_or_ge pc 720).elim (fun _ => (List.all_eq_true.mp chkL_35 pc (List.mem_range'_1.mpr ⟨by omega, by omega⟩))) (fun _ => (List.all_eq_true.mp chkL_36 pc (List.mem_range'_1.mpr ⟨by omega, by omega⟩))))))))) (fun _ => ((Nat.lt_or_ge pc 800).elim (fun _ => ((Nat.lt_or_ge pc 760).elim (fun _ => (List.all_eq_true.mp chkL_37 pc (List.mem_range'_1.mpr ⟨by omega, by omega⟩))) (fun _ => ((Nat.lt_or_ge pc 780).elim (fun _ => (List.all_eq_true.mp chkL_38 pc (List.mem_range'_1.mpr ⟨by omega, by omega⟩))) (fun _ => (List.all_eq_true.mp chkL_39 pc (List.mem_range'_1.mpr ⟨by omega, by omega⟩))))))) (fun _ => ((Nat.lt_or_ge pc 820).elim (fun _ => (List.all_eq_true.mp chkL_40 pc (List.mem_range'_1.mpr ⟨by omega, by omega⟩))) (fun _ => ((Nat.lt_or_ge pc 840).elim (fun _ => (List.all_eq_true.mp chkL_41 pc (List.mem_range'_1.mpr ⟨by omega, by omega⟩))) (fun _ => (List.all_eq_true.mp chkL_42 pc (List.mem_range'_1.mpr ⟨by omega, by omega⟩))))))))))))))
theorem len_0 : aLEN 0 = 860 := by decide +kernel
theorem chk_all {m pc : Nat} {ins : Instr} {nx tg a b c e : Nat} {z : Int} (h : aCODE m pc = some (ins, nx, tg, a, b, c, e, z)) : m < 261 ∧ okE m pc ins nx tg a b c e z = true := by
  have hpc : pc < aLEN m := by
    unfold aCODE at h
    cases hb : Nat.blt pc (aLEN m) with
    | false => rw [hb] at h; cases h
    | true => rwa [Nat.blt_eq] at hb
  have hm : m < 261 := by
    rcases Nat.lt_or_ge m 261 with h1 | h1
    · exact h1
    · have : aLEN m = 0 := by
        unfold aLEN
        have hb : Nat.blt m 261 = false := by
          cases hb : Nat.blt m 261 with
          | false => rfl
          | true => rw [Nat.blt_eq] at hb; omega
        rw [hb]
        rfl
      omega
  refine ⟨hm, ?_⟩
  have hk : chk m pc = true := by
    rcases Nat.eq_zero_or_pos m with h0 | h0
    · subst h0
      rw [len_0] at hpc
      exact chkL_all hpc
    · exact List.all_eq_true.mp (chkM_all h0 hm) pc (List.mem_range.mpr hpc)
  unfold chk at hk
  rw [h] at hk
  exact hk
