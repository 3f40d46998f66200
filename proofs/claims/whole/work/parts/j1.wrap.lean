/-! ===== the wrappers of the law ===== -/
theorem mu_1126 : Cond.methodLink RL 7 yX10_rack ∈ lw_tbl := mt_2 _ (List.mem_of_getElem? (i := 86) rfl)
theorem mu_1127 : Cond.instanceMethod yX10_rack ∈ lw_tbl := mt_2 _ (List.mem_of_getElem? (i := 87) rfl)
theorem mu_1128 : Cond.selects RX10 yX10_rack yX10_rack ∈ lw_tbl := mt_2 _ (List.mem_of_getElem? (i := 88) rfl)
theorem mu_1129 : Cond.codeWith yL_rack method_3_code 4 (Option.some Jvm.ClassFile.FieldType.int) [((0 : Nat), (9 : Nat), (12 : Nat), (13 : Nat)), ((0 : Nat), (9 : Nat), (15 : Nat), (15 : Nat))] ∈ lw_tbl := mt_2 _ (List.mem_of_getElem? (i := 83) rfl)
theorem mu_1130 : Cond.initialized RL ∈ lw_tbl := mt_1 _ (List.mem_of_getElem? (i := 0) rfl)
theorem mu_1131 : Cond.classLink RL 15 "java/lang/IllegalStateException" ∈ lw_tbl := mt_2 _ (List.mem_of_getElem? (i := 85) rfl)
theorem mu_1132 : Cond.classLink RL 13 "java/lang/IllegalArgumentException" ∈ lw_tbl := mt_2 _ (List.mem_of_getElem? (i := 84) rfl)
theorem mu_1133 : Cond.methodLink RL 17 yX10_row ∈ lw_tbl := mt_2 _ (List.mem_of_getElem? (i := 192) rfl)
theorem mu_1134 : Cond.instanceMethod yX10_row ∈ lw_tbl := mt_2 _ (List.mem_of_getElem? (i := 193) rfl)
theorem mu_1135 : Cond.selects RX10 yX10_row yX10_row ∈ lw_tbl := mt_2 _ (List.mem_of_getElem? (i := 194) rfl)
theorem mu_1136 : Cond.codeWith yL_row method_4_code 5 (Option.some Jvm.ClassFile.FieldType.int) [((0 : Nat), (7 : Nat), (10 : Nat), (21 : Nat)), ((0 : Nat), (7 : Nat), (14 : Nat), (13 : Nat))] ∈ lw_tbl := mt_2 _ (List.mem_of_getElem? (i := 190) rfl)
theorem mu_1137 : Cond.classLink RL 21 "java/lang/IndexOutOfBoundsException" ∈ lw_tbl := mt_2 _ (List.mem_of_getElem? (i := 191) rfl)
theorem mu_1138 : Cond.methodLink RL 23 yX10_put ∈ lw_tbl := mt_2 _ (List.mem_of_getElem? (i := 225) rfl)
theorem mu_1139 : Cond.instanceMethod yX10_put ∈ lw_tbl := mt_2 _ (List.mem_of_getElem? (i := 226) rfl)
theorem mu_1140 : Cond.selects RX10 yX10_put yX10_put ∈ lw_tbl := mt_2 _ (List.mem_of_getElem? (i := 227) rfl)
theorem mu_1141 : Cond.codeWith yL_put method_5_code 7 (Option.some Jvm.ClassFile.FieldType.int) [((0 : Nat), (14 : Nat), (17 : Nat), (21 : Nat))] ∈ lw_tbl := mt_2 _ (List.mem_of_getElem? (i := 224) rfl)
theorem mu_1142 : Cond.methodLink RL 27 yX10_tear ∈ lw_tbl := mt_3 _ (List.mem_of_getElem? (i := 1) rfl)
theorem mu_1143 : Cond.instanceMethod yX10_tear ∈ lw_tbl := mt_3 _ (List.mem_of_getElem? (i := 2) rfl)
theorem mu_1144 : Cond.selects RX10 yX10_tear yX10_tear ∈ lw_tbl := mt_3 _ (List.mem_of_getElem? (i := 3) rfl)
theorem mu_1145 : Cond.codeWith yL_tear method_6_code 6 (Option.some Jvm.ClassFile.FieldType.int) [((0 : Nat), (12 : Nat), (15 : Nat), (21 : Nat))] ∈ lw_tbl := mt_3 _ (List.mem_of_getElem? (i := 0) rfl)
theorem mu_1146 : Cond.methodLink RL 31 yX10_stone ∈ lw_tbl := mt_3 _ (List.mem_of_getElem? (i := 12) rfl)
theorem mu_1147 : Cond.instanceMethod yX10_stone ∈ lw_tbl := mt_3 _ (List.mem_of_getElem? (i := 13) rfl)
theorem mu_1148 : Cond.selects RX10 yX10_stone yX10_stone ∈ lw_tbl := mt_3 _ (List.mem_of_getElem? (i := 14) rfl)
theorem mu_1149 : Cond.codeWith yL_stone method_7_code 7 (Option.some Jvm.ClassFile.FieldType.int) [((0 : Nat), (14 : Nat), (17 : Nat), (21 : Nat)), ((0 : Nat), (14 : Nat), (21 : Nat), (13 : Nat))] ∈ lw_tbl := mt_3 _ (List.mem_of_getElem? (i := 11) rfl)
theorem mu_1150 : Cond.methodLink RL 34 yX10_told ∈ lw_tbl := mt_3 _ (List.mem_of_getElem? (i := 136) rfl)
theorem mu_1151 : Cond.instanceMethod yX10_told ∈ lw_tbl := mt_3 _ (List.mem_of_getElem? (i := 137) rfl)
theorem mu_1152 : Cond.selects RX10 yX10_told yX10_told ∈ lw_tbl := mt_3 _ (List.mem_of_getElem? (i := 138) rfl)
theorem mu_1153 : Cond.codeWith yL_told method_8_code 5 (Option.some Jvm.ClassFile.FieldType.int) [((0 : Nat), (10 : Nat), (13 : Nat), (21 : Nat)), ((0 : Nat), (10 : Nat), (17 : Nat), (13 : Nat))] ∈ lw_tbl := mt_3 _ (List.mem_of_getElem? (i := 135) rfl)
theorem mu_1154 : Cond.methodLink RL 38 yX10_arch ∈ lw_tbl := mt_3 _ (List.mem_of_getElem? (i := 161) rfl)
theorem mu_1155 : Cond.instanceMethod yX10_arch ∈ lw_tbl := mt_3 _ (List.mem_of_getElem? (i := 162) rfl)
theorem mu_1156 : Cond.selects RX10 yX10_arch yX10_arch ∈ lw_tbl := mt_3 _ (List.mem_of_getElem? (i := 163) rfl)
theorem mu_1157 : Cond.codeWith yL_arch method_9_code 4 (Option.some Jvm.ClassFile.FieldType.int) [((0 : Nat), (9 : Nat), (12 : Nat), (13 : Nat)), ((0 : Nat), (9 : Nat), (15 : Nat), (15 : Nat))] ∈ lw_tbl := mt_3 _ (List.mem_of_getElem? (i := 160) rfl)
theorem mu_1158 : Cond.methodLink RL 41 yX10_pier ∈ lw_tbl := mt_4 _ (List.mem_of_getElem? (i := 4) rfl)
theorem mu_1159 : Cond.instanceMethod yX10_pier ∈ lw_tbl := mt_4 _ (List.mem_of_getElem? (i := 5) rfl)
theorem mu_1160 : Cond.selects RX10 yX10_pier yX10_pier ∈ lw_tbl := mt_4 _ (List.mem_of_getElem? (i := 6) rfl)
theorem mu_1161 : Cond.codeWith yL_pier method_10_code 8 (Option.some Jvm.ClassFile.FieldType.int) [((0 : Nat), (13 : Nat), (16 : Nat), (21 : Nat)), ((0 : Nat), (13 : Nat), (20 : Nat), (13 : Nat))] ∈ lw_tbl := mt_4 _ (List.mem_of_getElem? (i := 3) rfl)
theorem mu_1162 : Cond.methodLink RL 45 yX10_place ∈ lw_tbl := mt_4 _ (List.mem_of_getElem? (i := 28) rfl)
theorem mu_1163 : Cond.instanceMethod yX10_place ∈ lw_tbl := mt_4 _ (List.mem_of_getElem? (i := 29) rfl)
theorem mu_1164 : Cond.selects RX10 yX10_place yX10_place ∈ lw_tbl := mt_4 _ (List.mem_of_getElem? (i := 30) rfl)
theorem mu_1165 : Cond.codeWith yL_place method_11_code 5 (Option.some Jvm.ClassFile.FieldType.int) [((0 : Nat), (7 : Nat), (10 : Nat), (21 : Nat))] ∈ lw_tbl := mt_4 _ (List.mem_of_getElem? (i := 27) rfl)
theorem mu_1166 : Cond.methodLink RL 48 yX10_there ∈ lw_tbl := mt_4 _ (List.mem_of_getElem? (i := 54) rfl)
theorem mu_1167 : Cond.instanceMethod yX10_there ∈ lw_tbl := mt_4 _ (List.mem_of_getElem? (i := 55) rfl)
theorem mu_1168 : Cond.selects RX10 yX10_there yX10_there ∈ lw_tbl := mt_4 _ (List.mem_of_getElem? (i := 56) rfl)
theorem mu_1169 : Cond.codeWith yL_there method_12_code 5 (Option.some Jvm.ClassFile.FieldType.int) [((0 : Nat), (10 : Nat), (13 : Nat), (21 : Nat))] ∈ lw_tbl := mt_4 _ (List.mem_of_getElem? (i := 53) rfl)
theorem mu_1170 : Cond.methodLink RL 51 yX10_load ∈ lw_tbl := mt_4 _ (List.mem_of_getElem? (i := 65) rfl)
theorem mu_1171 : Cond.instanceMethod yX10_load ∈ lw_tbl := mt_4 _ (List.mem_of_getElem? (i := 66) rfl)
theorem mu_1172 : Cond.selects RX10 yX10_load yX10_load ∈ lw_tbl := mt_4 _ (List.mem_of_getElem? (i := 67) rfl)
theorem mu_1173 : Cond.codeWith yL_load method_13_code 7 (Option.some Jvm.ClassFile.FieldType.int) [((0 : Nat), (14 : Nat), (17 : Nat), (21 : Nat)), ((0 : Nat), (14 : Nat), (21 : Nat), (13 : Nat))] ∈ lw_tbl := mt_4 _ (List.mem_of_getElem? (i := 64) rfl)
theorem mu_1174 : Cond.methodLink RL 54 yX10_slope ∈ lw_tbl := mt_4 _ (List.mem_of_getElem? (i := 87) rfl)
theorem mu_1175 : Cond.instanceMethod yX10_slope ∈ lw_tbl := mt_4 _ (List.mem_of_getElem? (i := 88) rfl)
theorem mu_1176 : Cond.selects RX10 yX10_slope yX10_slope ∈ lw_tbl := mt_4 _ (List.mem_of_getElem? (i := 89) rfl)
theorem mu_1177 : Cond.codeWith yL_slope method_14_code 5 (Option.some Jvm.ClassFile.FieldType.int) [((0 : Nat), (7 : Nat), (10 : Nat), (21 : Nat)), ((0 : Nat), (7 : Nat), (14 : Nat), (13 : Nat))] ∈ lw_tbl := mt_4 _ (List.mem_of_getElem? (i := 86) rfl)
theorem mu_1178 : Cond.methodLink RL 57 yX10_whole ∈ lw_tbl := mt_4 _ (List.mem_of_getElem? (i := 99) rfl)
theorem mu_1179 : Cond.instanceMethod yX10_whole ∈ lw_tbl := mt_4 _ (List.mem_of_getElem? (i := 100) rfl)
theorem mu_1180 : Cond.selects RX10 yX10_whole yX10_whole ∈ lw_tbl := mt_4 _ (List.mem_of_getElem? (i := 101) rfl)
theorem mu_1181 : Cond.codeWith yL_whole method_15_code 4 (Option.some Jvm.ClassFile.FieldType.int) [((0 : Nat), (9 : Nat), (12 : Nat), (21 : Nat))] ∈ lw_tbl := mt_4 _ (List.mem_of_getElem? (i := 98) rfl)
theorem mu_1182 : Cond.methodLink RL 60 yX10_joint ∈ lw_tbl := mt_4 _ (List.mem_of_getElem? (i := 135) rfl)
theorem mu_1183 : Cond.instanceMethod yX10_joint ∈ lw_tbl := mt_4 _ (List.mem_of_getElem? (i := 136) rfl)
theorem mu_1184 : Cond.selects RX10 yX10_joint yX10_joint ∈ lw_tbl := mt_4 _ (List.mem_of_getElem? (i := 137) rfl)
theorem mu_1185 : Cond.codeWith yL_joint method_16_code 6 (Option.some Jvm.ClassFile.FieldType.int) [((0 : Nat), (12 : Nat), (15 : Nat), (21 : Nat)), ((0 : Nat), (12 : Nat), (19 : Nat), (13 : Nat))] ∈ lw_tbl := mt_4 _ (List.mem_of_getElem? (i := 134) rfl)
theorem mu_1186 : Cond.methodLink RL 63 yX10_line ∈ lw_tbl := mt_4 _ (List.mem_of_getElem? (i := 151) rfl)
theorem mu_1187 : Cond.instanceMethod yX10_line ∈ lw_tbl := mt_4 _ (List.mem_of_getElem? (i := 152) rfl)
theorem mu_1188 : Cond.selects RX10 yX10_line yX10_line ∈ lw_tbl := mt_4 _ (List.mem_of_getElem? (i := 153) rfl)
theorem mu_1189 : Cond.codeWith yL_line method_17_code 8 (Option.some Jvm.ClassFile.FieldType.int) [((0 : Nat), (16 : Nat), (19 : Nat), (21 : Nat)), ((0 : Nat), (16 : Nat), (23 : Nat), (13 : Nat)), ((0 : Nat), (16 : Nat), (27 : Nat), (15 : Nat))] ∈ lw_tbl := mt_4 _ (List.mem_of_getElem? (i := 150) rfl)
theorem mu_1190 : Cond.methodLink RL 67 yX10_judge ∈ lw_tbl := mt_4 _ (List.mem_of_getElem? (i := 230) rfl)
theorem mu_1191 : Cond.instanceMethod yX10_judge ∈ lw_tbl := mt_4 _ (List.mem_of_getElem? (i := 231) rfl)
theorem mu_1192 : Cond.selects RX10 yX10_judge yX10_judge ∈ lw_tbl := mt_4 _ (List.mem_of_getElem? (i := 232) rfl)
theorem mu_1193 : Cond.codeWith yL_judge method_18_code 5 (Option.some Jvm.ClassFile.FieldType.int) [((0 : Nat), (10 : Nat), (13 : Nat), (21 : Nat)), ((0 : Nat), (10 : Nat), (17 : Nat), (13 : Nat)), ((0 : Nat), (10 : Nat), (21 : Nat), (15 : Nat))] ∈ lw_tbl := mt_4 _ (List.mem_of_getElem? (i := 229) rfl)
theorem mu_1194 : Cond.methodLink RL 70 yX10_number ∈ lw_tbl := mt_5 _ (List.mem_of_getElem? (i := 138) rfl)
theorem mu_1195 : Cond.instanceMethod yX10_number ∈ lw_tbl := mt_5 _ (List.mem_of_getElem? (i := 139) rfl)
theorem mu_1196 : Cond.selects RX10 yX10_number yX10_number ∈ lw_tbl := mt_5 _ (List.mem_of_getElem? (i := 140) rfl)
theorem mu_1197 : Cond.codeWith yL_number method_19_code 4 (Option.some Jvm.ClassFile.FieldType.int) [((0 : Nat), (9 : Nat), (12 : Nat), (15 : Nat)), ((0 : Nat), (9 : Nat), (15 : Nat), (13 : Nat))] ∈ lw_tbl := mt_5 _ (List.mem_of_getElem? (i := 137) rfl)
theorem mu_1198 : Cond.methodLink RL 73 yX10_room ∈ lw_tbl := mt_5 _ (List.mem_of_getElem? (i := 154) rfl)
theorem mu_1199 : Cond.instanceMethod yX10_room ∈ lw_tbl := mt_5 _ (List.mem_of_getElem? (i := 155) rfl)
theorem mu_1200 : Cond.selects RX10 yX10_room yX10_room ∈ lw_tbl := mt_5 _ (List.mem_of_getElem? (i := 156) rfl)
theorem mu_1201 : Cond.codeWith yL_room method_20_code 4 (Option.some Jvm.ClassFile.FieldType.int) [((0 : Nat), (9 : Nat), (12 : Nat), (21 : Nat)), ((0 : Nat), (9 : Nat), (15 : Nat), (15 : Nat))] ∈ lw_tbl := mt_5 _ (List.mem_of_getElem? (i := 153) rfl)
theorem mu_1202 : Cond.methodLink RL 76 yX10_strike ∈ lw_tbl := mt_5 _ (List.mem_of_getElem? (i := 169) rfl)
theorem mu_1203 : Cond.instanceMethod yX10_strike ∈ lw_tbl := mt_5 _ (List.mem_of_getElem? (i := 170) rfl)
theorem mu_1204 : Cond.selects RX10 yX10_strike yX10_strike ∈ lw_tbl := mt_5 _ (List.mem_of_getElem? (i := 171) rfl)
theorem mu_1205 : Cond.codeWith yL_strike method_21_code 6 (Option.some Jvm.ClassFile.FieldType.int) [((0 : Nat), (19 : Nat), (22 : Nat), (21 : Nat)), ((0 : Nat), (19 : Nat), (26 : Nat), (13 : Nat)), ((0 : Nat), (19 : Nat), (30 : Nat), (15 : Nat))] ∈ lw_tbl := mt_5 _ (List.mem_of_getElem? (i := 168) rfl)
theorem mu_1206 : Cond.methodLink RL 80 yX10_order ∈ lw_tbl := mt_5 _ (List.mem_of_getElem? (i := 185) rfl)
theorem mu_1207 : Cond.instanceMethod yX10_order ∈ lw_tbl := mt_5 _ (List.mem_of_getElem? (i := 186) rfl)
theorem mu_1208 : Cond.selects RX10 yX10_order yX10_order ∈ lw_tbl := mt_5 _ (List.mem_of_getElem? (i := 187) rfl)
theorem mu_1209 : Cond.codeWith yL_order method_22_code 5 (Option.some Jvm.ClassFile.FieldType.int) [((0 : Nat), (10 : Nat), (13 : Nat), (21 : Nat)), ((0 : Nat), (10 : Nat), (17 : Nat), (15 : Nat))] ∈ lw_tbl := mt_5 _ (List.mem_of_getElem? (i := 184) rfl)
/-! ArchYardLaw.rack(LArchYard;I[J)I -/
def dl_L_rack : List (Nat × Instr × Nat) := [(0, .aload_n 2, 1), (1, .iconst 0, 1), (2, .aload_n 0, 1), (3, .iload_n 1, 1), (4, .invokevirtual 7, 3), (7, .i2l, 1), (8, .lastore, 1), (9, .goto 9, 3), (12, .astore_n 3, 1), (13, .iconst 1, 1), (14, .ireturn, 1), (15, .astore_n 3, 1), (16, .iconst 2, 1), (17, .ireturn, 1), (18, .iconst 0, 1), (19, .ireturn, 1)]
theorem dc_L_rack : m_chk cL_rack dl_L_rack = true := by decide +kernel
abbrev hh_L_rack : List (Nat × Nat × Nat × Nat) := [(0, 9, 12, 13), (0, 9, 15, 15)]
def hs_L_rack : List (Int × Nat) := [(2, 12), (3, 15)]
theorem hk_L_rack_4 : m_hok RL 4 (tableOf hh_L_rack) hs_L_rack := ⟨⟨by decide, by decide, rfl, by decide, mu_1132⟩, ⟨⟨by decide, by decide, rfl, by decide, mu_1131⟩, trivial⟩⟩
abbrev rm_L_rack : Room := { frames := 7, cells := 3, slots := 1643, locals := 121 }
abbrev bu_L_rack : Nat → Nat × Nat := fun q => m_bud [(0, 0, 0), (7, 3, 1643), (12, 3, 1643), (15, 3, 1643), (18, 3, 1643)] q
def lv_L_rack : Nat → List Nat := fun q => m_liv [(0, [0, 1, 2]), (7, []), (12, []), (15, []), (18, [])] q
def b_L_rack_0 (K : m_K) (Q X : m_Po) : m_C := m_lod 2 2 (m_con (0, 0) (m_lod 2 0 (m_lod 0 1 (m_hV 9 o_X10_rack 2 (some 0) hs_L_rack K (K 7)))))
set_option maxRecDepth 20000 in
theorem k_L_rack_0 {l : Launch} {bs : Nat} {D : va_G} {Da : Nat → ClassId} (htr : l.stackTraces = false) : m_okb l bs D Da RL cL_rack 4 (some .int) rm_L_rack (tableOf hh_L_rack) "rack" bu_L_rack 0 b_L_rack_0 := fun Q X K hK => (ok_aload_n (pc := 0) rfl (m_dec dc_L_rack 0 rfl) (ok_iconst (pc := 1) (And.intro (by decide) (by decide)) (m_dec dc_L_rack 1 rfl) (ok_aload_n (pc := 2) rfl (m_dec dc_L_rack 2 rfl) (ok_iload_n (pc := 3) rfl (m_dec dc_L_rack 3 rfl) (ok_hV (pc := 4) (kk := 9) rfl (by decide) m_cl9 (s_X10_rack htr) (m_site_of st_X10_rack (And.intro (by decide) (by decide)) (And.intro (by decide) (by decide))) mu_1127 (m_dec dc_L_rack 4 rfl) mu_1128 mu_1126 hk_L_rack_4 (List.forall_mem_cons.mpr ⟨(hK 12), List.forall_mem_cons.mpr ⟨(hK 15), fun _ h => absurd h List.not_mem_nil⟩⟩) (hK 7))))))
def b_L_rack_7 (K : m_K) (Q X : m_Po) : m_C := m_un 0 1 (fun x => x) (m_ast 101 1 (j_go K 18))
set_option maxRecDepth 20000 in
theorem k_L_rack_7 {l : Launch} {bs : Nat} {D : va_G} {Da : Nat → ClassId} (htr : l.stackTraces = false) : m_okb l bs D Da RL cL_rack 4 (some .int) rm_L_rack (tableOf hh_L_rack) "rack" bu_L_rack 7 b_L_rack_7 := fun Q X K hK => (ok_i2l (pc := 7) (m_dec dc_L_rack 5 rfl) (ok_last (pc := 8) (m_dec dc_L_rack 6 rfl) (ok_go (pc := 9) (m_dec dc_L_rack 7 rfl) rfl (hK 18))))
def b_L_rack_12 (K : m_K) (Q X : m_Po) : m_C := m_sto 2 3 (m_con (0, 1) (j_r 0 Q))
set_option maxRecDepth 20000 in
theorem k_L_rack_12 {l : Launch} {bs : Nat} {D : va_G} {Da : Nat → ClassId} (htr : l.stackTraces = false) : m_okb l bs D Da RL cL_rack 4 (some .int) rm_L_rack (tableOf hh_L_rack) "rack" bu_L_rack 12 b_L_rack_12 := fun Q X K hK => (ok_astore_n (pc := 12) rfl (by decide) (m_dec dc_L_rack 8 rfl) (ok_iconst (pc := 13) (And.intro (by decide) (by decide)) (m_dec dc_L_rack 9 rfl) (ok_iret (pc := 14) (And.intro (by decide) (by decide)) rfl (m_dec dc_L_rack 10 rfl))))
def b_L_rack_15 (K : m_K) (Q X : m_Po) : m_C := m_sto 2 3 (m_con (0, 2) (j_r 0 Q))
set_option maxRecDepth 20000 in
theorem k_L_rack_15 {l : Launch} {bs : Nat} {D : va_G} {Da : Nat → ClassId} (htr : l.stackTraces = false) : m_okb l bs D Da RL cL_rack 4 (some .int) rm_L_rack (tableOf hh_L_rack) "rack" bu_L_rack 15 b_L_rack_15 := fun Q X K hK => (ok_astore_n (pc := 15) rfl (by decide) (m_dec dc_L_rack 11 rfl) (ok_iconst (pc := 16) (And.intro (by decide) (by decide)) (m_dec dc_L_rack 12 rfl) (ok_iret (pc := 17) (And.intro (by decide) (by decide)) rfl (m_dec dc_L_rack 13 rfl))))
def b_L_rack_18 (K : m_K) (Q X : m_Po) : m_C := m_con (0, 0) (j_r 0 Q)
set_option maxRecDepth 20000 in
theorem k_L_rack_18 {l : Launch} {bs : Nat} {D : va_G} {Da : Nat → ClassId} (htr : l.stackTraces = false) : m_okb l bs D Da RL cL_rack 4 (some .int) rm_L_rack (tableOf hh_L_rack) "rack" bu_L_rack 18 b_L_rack_18 := fun Q X K hK => (ok_iconst (pc := 18) (And.intro (by decide) (by decide)) (m_dec dc_L_rack 14 rfl) (ok_iret (pc := 19) (And.intro (by decide) (by decide)) rfl (m_dec dc_L_rack 15 rfl)))
def cd_L_rack : m_B := m_tab lv_L_rack [(0, b_L_rack_0), (7, b_L_rack_7), (12, b_L_rack_12), (15, b_L_rack_15), (18, b_L_rack_18)]
def o_L_rack : m_O := m_ent cd_L_rack 4
theorem st_L_rack : m_staW yL_rack cL_rack 4 (some .int) hh_L_rack 3 := ⟨mu_1129, mu_1130, ⟨by decide, by decide⟩, by decide +kernel⟩
theorem s_L_rack {l : Launch} {bs : Nat} {D : va_G} {Da : Nat → ClassId} (htr : l.stackTraces = false) : Snd l bs D Da yL_rack (.codeWith yL_rack cL_rack 4 (some .int) hh_L_rack) (some .int) rm_L_rack o_L_rack := m_methodH (hh := hh_L_rack) (bud := bu_L_rack) htr (by decide) (m_tab_cons (k_L_rack_0 htr) (m_tab_cons (k_L_rack_7 htr) (m_tab_cons (k_L_rack_12 htr) (m_tab_cons (k_L_rack_15 htr) (m_tab_cons (k_L_rack_18 htr) (m_tab_nil))))))
/-! ArchYardLaw.row(LArchYard;III)I -/
def dl_L_row : List (Nat × Instr × Nat) := [(0, .aload_n 0, 1), (1, .iload_n 1, 1), (2, .iload_n 2, 1), (3, .iload_n 3, 1), (4, .invokevirtual 17, 3), (7, .goto 11, 3), (10, .astore 4, 2), (12, .iconst 1, 1), (13, .ireturn, 1), (14, .astore 4, 2), (16, .iconst 2, 1), (17, .ireturn, 1), (18, .iconst 0, 1), (19, .ireturn, 1)]
theorem dc_L_row : m_chk cL_row dl_L_row = true := by decide +kernel
abbrev hh_L_row : List (Nat × Nat × Nat × Nat) := [(0, 7, 10, 21), (0, 7, 14, 13)]
def hs_L_row : List (Int × Nat) := [(1, 10), (2, 14)]
theorem hk_L_row_4 : m_hok RL 4 (tableOf hh_L_row) hs_L_row := ⟨⟨by decide, by decide, rfl, by decide, mu_1137⟩, ⟨⟨by decide, by decide, rfl, by decide, mu_1132⟩, trivial⟩⟩
abbrev rm_L_row : Room := { frames := 8, cells := 2, slots := 12, locals := 147 }
abbrev bu_L_row : Nat → Nat × Nat := fun q => m_bud [(0, 0, 0), (7, 2, 12), (10, 2, 12), (14, 2, 12), (18, 2, 12)] q
def lv_L_row : Nat → List Nat := fun q => m_liv [(0, [0, 1, 2, 3]), (7, []), (10, []), (14, []), (18, [])] q
def b_L_row_0 (K : m_K) (Q X : m_Po) : m_C := m_lod 2 0 (m_lod 0 1 (m_lod 0 2 (m_lod 0 3 (m_hV 9 o_X10_row 4 none hs_L_row K (K 7)))))
set_option maxRecDepth 20000 in
theorem k_L_row_0 {l : Launch} {bs : Nat} {D : va_G} {Da : Nat → ClassId} (htr : l.stackTraces = false) : m_okb l bs D Da RL cL_row 5 (some .int) rm_L_row (tableOf hh_L_row) "row" bu_L_row 0 b_L_row_0 := fun Q X K hK => (ok_aload_n (pc := 0) rfl (m_dec dc_L_row 0 rfl) (ok_iload_n (pc := 1) rfl (m_dec dc_L_row 1 rfl) (ok_iload_n (pc := 2) rfl (m_dec dc_L_row 2 rfl) (ok_iload_n (pc := 3) rfl (m_dec dc_L_row 3 rfl) (ok_hV (pc := 4) (kk := 9) rfl (by decide) m_cl9 (s_X10_row htr) (m_site_of st_X10_row (And.intro (by decide) (by decide)) (And.intro (by decide) (by decide))) mu_1134 (m_dec dc_L_row 4 rfl) mu_1135 mu_1133 hk_L_row_4 (List.forall_mem_cons.mpr ⟨(hK 10), List.forall_mem_cons.mpr ⟨(hK 14), fun _ h => absurd h List.not_mem_nil⟩⟩) (hK 7))))))
def b_L_row_7 (K : m_K) (Q X : m_Po) : m_C := j_go K 18
set_option maxRecDepth 20000 in
theorem k_L_row_7 {l : Launch} {bs : Nat} {D : va_G} {Da : Nat → ClassId} (htr : l.stackTraces = false) : m_okb l bs D Da RL cL_row 5 (some .int) rm_L_row (tableOf hh_L_row) "row" bu_L_row 7 b_L_row_7 := fun Q X K hK => (ok_go (pc := 7) (m_dec dc_L_row 5 rfl) rfl (hK 18))
def b_L_row_10 (K : m_K) (Q X : m_Po) : m_C := m_sto 2 4 (m_con (0, 1) (j_r 0 Q))
set_option maxRecDepth 20000 in
theorem k_L_row_10 {l : Launch} {bs : Nat} {D : va_G} {Da : Nat → ClassId} (htr : l.stackTraces = false) : m_okb l bs D Da RL cL_row 5 (some .int) rm_L_row (tableOf hh_L_row) "row" bu_L_row 10 b_L_row_10 := fun Q X K hK => (ok_astore (pc := 10) (by decide) (m_dec dc_L_row 6 rfl) (ok_iconst (pc := 12) (And.intro (by decide) (by decide)) (m_dec dc_L_row 7 rfl) (ok_iret (pc := 13) (And.intro (by decide) (by decide)) rfl (m_dec dc_L_row 8 rfl))))
def b_L_row_14 (K : m_K) (Q X : m_Po) : m_C := m_sto 2 4 (m_con (0, 2) (j_r 0 Q))
set_option maxRecDepth 20000 in
theorem k_L_row_14 {l : Launch} {bs : Nat} {D : va_G} {Da : Nat → ClassId} (htr : l.stackTraces = false) : m_okb l bs D Da RL cL_row 5 (some .int) rm_L_row (tableOf hh_L_row) "row" bu_L_row 14 b_L_row_14 := fun Q X K hK => (ok_astore (pc := 14) (by decide) (m_dec dc_L_row 9 rfl) (ok_iconst (pc := 16) (And.intro (by decide) (by decide)) (m_dec dc_L_row 10 rfl) (ok_iret (pc := 17) (And.intro (by decide) (by decide)) rfl (m_dec dc_L_row 11 rfl))))
def b_L_row_18 (K : m_K) (Q X : m_Po) : m_C := m_con (0, 0) (j_r 0 Q)
set_option maxRecDepth 20000 in
theorem k_L_row_18 {l : Launch} {bs : Nat} {D : va_G} {Da : Nat → ClassId} (htr : l.stackTraces = false) : m_okb l bs D Da RL cL_row 5 (some .int) rm_L_row (tableOf hh_L_row) "row" bu_L_row 18 b_L_row_18 := fun Q X K hK => (ok_iconst (pc := 18) (And.intro (by decide) (by decide)) (m_dec dc_L_row 12 rfl) (ok_iret (pc := 19) (And.intro (by decide) (by decide)) rfl (m_dec dc_L_row 13 rfl)))
def cd_L_row : m_B := m_tab lv_L_row [(0, b_L_row_0), (7, b_L_row_7), (10, b_L_row_10), (14, b_L_row_14), (18, b_L_row_18)]
def o_L_row : m_O := m_ent cd_L_row 5
theorem st_L_row : m_staW yL_row cL_row 5 (some .int) hh_L_row 4 := ⟨mu_1136, mu_1130, ⟨by decide, by decide⟩, by decide +kernel⟩
theorem s_L_row {l : Launch} {bs : Nat} {D : va_G} {Da : Nat → ClassId} (htr : l.stackTraces = false) : Snd l bs D Da yL_row (.codeWith yL_row cL_row 5 (some .int) hh_L_row) (some .int) rm_L_row o_L_row := m_methodH (hh := hh_L_row) (bud := bu_L_row) htr (by decide) (m_tab_cons (k_L_row_0 htr) (m_tab_cons (k_L_row_7 htr) (m_tab_cons (k_L_row_10 htr) (m_tab_cons (k_L_row_14 htr) (m_tab_cons (k_L_row_18 htr) (m_tab_nil))))))
/-! ArchYardLaw.put(LArchYard;IIII[J)I -/
def dl_L_put : List (Nat × Instr × Nat) := [(0, .aload 5, 2), (2, .iconst 0, 1), (3, .aload_n 0, 1), (4, .iload_n 1, 1), (5, .iload_n 2, 1), (6, .iload_n 3, 1), (7, .iload 4, 2), (9, .invokevirtual 23, 3), (12, .i2l, 1), (13, .lastore, 1), (14, .goto 7, 3), (17, .astore 6, 2), (19, .iconst 1, 1), (20, .ireturn, 1), (21, .iconst 0, 1), (22, .ireturn, 1)]
theorem dc_L_put : m_chk cL_put dl_L_put = true := by decide +kernel
abbrev hh_L_put : List (Nat × Nat × Nat × Nat) := [(0, 14, 17, 21)]
def hs_L_put : List (Int × Nat) := [(1, 17)]
theorem hk_L_put_9 : m_hok RL 9 (tableOf hh_L_put) hs_L_put := ⟨⟨by decide, by decide, rfl, by decide, mu_1137⟩, trivial⟩
abbrev rm_L_put : Room := { frames := 8, cells := 1, slots := 6, locals := 147 }
abbrev bu_L_put : Nat → Nat × Nat := fun q => m_bud [(0, 0, 0), (12, 1, 6), (17, 1, 6), (21, 1, 6)] q
def lv_L_put : Nat → List Nat := fun q => m_liv [(0, [0, 1, 2, 3, 4, 5]), (12, []), (17, []), (21, [])] q
def b_L_put_0 (K : m_K) (Q X : m_Po) : m_C := m_lod 2 5 (m_con (0, 0) (m_lod 2 0 (m_lod 0 1 (m_lod 0 2 (m_lod 0 3 (m_lod 0 4 (m_hV 9 o_X10_put 5 (some 0) hs_L_put K (K 12))))))))
set_option maxRecDepth 20000 in
theorem k_L_put_0 {l : Launch} {bs : Nat} {D : va_G} {Da : Nat → ClassId} (htr : l.stackTraces = false) : m_okb l bs D Da RL cL_put 7 (some .int) rm_L_put (tableOf hh_L_put) "put" bu_L_put 0 b_L_put_0 := fun Q X K hK => (ok_aload (pc := 0) (m_dec dc_L_put 0 rfl) (ok_iconst (pc := 2) (And.intro (by decide) (by decide)) (m_dec dc_L_put 1 rfl) (ok_aload_n (pc := 3) rfl (m_dec dc_L_put 2 rfl) (ok_iload_n (pc := 4) rfl (m_dec dc_L_put 3 rfl) (ok_iload_n (pc := 5) rfl (m_dec dc_L_put 4 rfl) (ok_iload_n (pc := 6) rfl (m_dec dc_L_put 5 rfl) (ok_iload (pc := 7) (m_dec dc_L_put 6 rfl) (ok_hV (pc := 9) (kk := 9) rfl (by decide) m_cl9 (s_X10_put htr) (m_site_of st_X10_put (And.intro (by decide) (by decide)) (And.intro (by decide) (by decide))) mu_1139 (m_dec dc_L_put 7 rfl) mu_1140 mu_1138 hk_L_put_9 (List.forall_mem_cons.mpr ⟨(hK 17), fun _ h => absurd h List.not_mem_nil⟩) (hK 12)))))))))
def b_L_put_12 (K : m_K) (Q X : m_Po) : m_C := m_un 0 1 (fun x => x) (m_ast 101 1 (j_go K 21))
set_option maxRecDepth 20000 in
theorem k_L_put_12 {l : Launch} {bs : Nat} {D : va_G} {Da : Nat → ClassId} (htr : l.stackTraces = false) : m_okb l bs D Da RL cL_put 7 (some .int) rm_L_put (tableOf hh_L_put) "put" bu_L_put 12 b_L_put_12 := fun Q X K hK => (ok_i2l (pc := 12) (m_dec dc_L_put 8 rfl) (ok_last (pc := 13) (m_dec dc_L_put 9 rfl) (ok_go (pc := 14) (m_dec dc_L_put 10 rfl) rfl (hK 21))))
def b_L_put_17 (K : m_K) (Q X : m_Po) : m_C := m_sto 2 6 (m_con (0, 1) (j_r 0 Q))
set_option maxRecDepth 20000 in
theorem k_L_put_17 {l : Launch} {bs : Nat} {D : va_G} {Da : Nat → ClassId} (htr : l.stackTraces = false) : m_okb l bs D Da RL cL_put 7 (some .int) rm_L_put (tableOf hh_L_put) "put" bu_L_put 17 b_L_put_17 := fun Q X K hK => (ok_astore (pc := 17) (by decide) (m_dec dc_L_put 11 rfl) (ok_iconst (pc := 19) (And.intro (by decide) (by decide)) (m_dec dc_L_put 12 rfl) (ok_iret (pc := 20) (And.intro (by decide) (by decide)) rfl (m_dec dc_L_put 13 rfl))))
def b_L_put_21 (K : m_K) (Q X : m_Po) : m_C := m_con (0, 0) (j_r 0 Q)
set_option maxRecDepth 20000 in
theorem k_L_put_21 {l : Launch} {bs : Nat} {D : va_G} {Da : Nat → ClassId} (htr : l.stackTraces = false) : m_okb l bs D Da RL cL_put 7 (some .int) rm_L_put (tableOf hh_L_put) "put" bu_L_put 21 b_L_put_21 := fun Q X K hK => (ok_iconst (pc := 21) (And.intro (by decide) (by decide)) (m_dec dc_L_put 14 rfl) (ok_iret (pc := 22) (And.intro (by decide) (by decide)) rfl (m_dec dc_L_put 15 rfl)))
def cd_L_put : m_B := m_tab lv_L_put [(0, b_L_put_0), (12, b_L_put_12), (17, b_L_put_17), (21, b_L_put_21)]
def o_L_put : m_O := m_ent cd_L_put 7
theorem st_L_put : m_staW yL_put cL_put 7 (some .int) hh_L_put 6 := ⟨mu_1141, mu_1130, ⟨by decide, by decide⟩, by decide +kernel⟩
theorem s_L_put {l : Launch} {bs : Nat} {D : va_G} {Da : Nat → ClassId} (htr : l.stackTraces = false) : Snd l bs D Da yL_put (.codeWith yL_put cL_put 7 (some .int) hh_L_put) (some .int) rm_L_put o_L_put := m_methodH (hh := hh_L_put) (bud := bu_L_put) htr (by decide) (m_tab_cons (k_L_put_0 htr) (m_tab_cons (k_L_put_12 htr) (m_tab_cons (k_L_put_17 htr) (m_tab_cons (k_L_put_21 htr) (m_tab_nil)))))
/-! ArchYardLaw.tear(LArchYard;III[J)I -/
def dl_L_tear : List (Nat × Instr × Nat) := [(0, .aload 4, 2), (2, .iconst 0, 1), (3, .aload_n 0, 1), (4, .iload_n 1, 1), (5, .iload_n 2, 1), (6, .iload_n 3, 1), (7, .invokevirtual 27, 3), (10, .i2l, 1), (11, .lastore, 1), (12, .goto 7, 3), (15, .astore 5, 2), (17, .iconst 1, 1), (18, .ireturn, 1), (19, .iconst 0, 1), (20, .ireturn, 1)]
theorem dc_L_tear : m_chk cL_tear dl_L_tear = true := by decide +kernel
abbrev hh_L_tear : List (Nat × Nat × Nat × Nat) := [(0, 12, 15, 21)]
def hs_L_tear : List (Int × Nat) := [(1, 15)]
theorem hk_L_tear_7 : m_hok RL 7 (tableOf hh_L_tear) hs_L_tear := ⟨⟨by decide, by decide, rfl, by decide, mu_1137⟩, trivial⟩
abbrev rm_L_tear : Room := { frames := 8, cells := 1, slots := 6, locals := 146 }
abbrev bu_L_tear : Nat → Nat × Nat := fun q => m_bud [(0, 0, 0), (10, 1, 6), (15, 1, 6), (19, 1, 6)] q
def lv_L_tear : Nat → List Nat := fun q => m_liv [(0, [0, 1, 2, 3, 4]), (10, []), (15, []), (19, [])] q
def b_L_tear_0 (K : m_K) (Q X : m_Po) : m_C := m_lod 2 4 (m_con (0, 0) (m_lod 2 0 (m_lod 0 1 (m_lod 0 2 (m_lod 0 3 (m_hV 9 o_X10_tear 4 (some 0) hs_L_tear K (K 10)))))))
set_option maxRecDepth 20000 in
theorem k_L_tear_0 {l : Launch} {bs : Nat} {D : va_G} {Da : Nat → ClassId} (htr : l.stackTraces = false) : m_okb l bs D Da RL cL_tear 6 (some .int) rm_L_tear (tableOf hh_L_tear) "tear" bu_L_tear 0 b_L_tear_0 := fun Q X K hK => (ok_aload (pc := 0) (m_dec dc_L_tear 0 rfl) (ok_iconst (pc := 2) (And.intro (by decide) (by decide)) (m_dec dc_L_tear 1 rfl) (ok_aload_n (pc := 3) rfl (m_dec dc_L_tear 2 rfl) (ok_iload_n (pc := 4) rfl (m_dec dc_L_tear 3 rfl) (ok_iload_n (pc := 5) rfl (m_dec dc_L_tear 4 rfl) (ok_iload_n (pc := 6) rfl (m_dec dc_L_tear 5 rfl) (ok_hV (pc := 7) (kk := 9) rfl (by decide) m_cl9 (s_X10_tear htr) (m_site_of st_X10_tear (And.intro (by decide) (by decide)) (And.intro (by decide) (by decide))) mu_1143 (m_dec dc_L_tear 6 rfl) mu_1144 mu_1142 hk_L_tear_7 (List.forall_mem_cons.mpr ⟨(hK 15), fun _ h => absurd h List.not_mem_nil⟩) (hK 10))))))))
def b_L_tear_10 (K : m_K) (Q X : m_Po) : m_C := m_un 0 1 (fun x => x) (m_ast 101 1 (j_go K 19))
set_option maxRecDepth 20000 in
theorem k_L_tear_10 {l : Launch} {bs : Nat} {D : va_G} {Da : Nat → ClassId} (htr : l.stackTraces = false) : m_okb l bs D Da RL cL_tear 6 (some .int) rm_L_tear (tableOf hh_L_tear) "tear" bu_L_tear 10 b_L_tear_10 := fun Q X K hK => (ok_i2l (pc := 10) (m_dec dc_L_tear 7 rfl) (ok_last (pc := 11) (m_dec dc_L_tear 8 rfl) (ok_go (pc := 12) (m_dec dc_L_tear 9 rfl) rfl (hK 19))))
def b_L_tear_15 (K : m_K) (Q X : m_Po) : m_C := m_sto 2 5 (m_con (0, 1) (j_r 0 Q))
set_option maxRecDepth 20000 in
theorem k_L_tear_15 {l : Launch} {bs : Nat} {D : va_G} {Da : Nat → ClassId} (htr : l.stackTraces = false) : m_okb l bs D Da RL cL_tear 6 (some .int) rm_L_tear (tableOf hh_L_tear) "tear" bu_L_tear 15 b_L_tear_15 := fun Q X K hK => (ok_astore (pc := 15) (by decide) (m_dec dc_L_tear 10 rfl) (ok_iconst (pc := 17) (And.intro (by decide) (by decide)) (m_dec dc_L_tear 11 rfl) (ok_iret (pc := 18) (And.intro (by decide) (by decide)) rfl (m_dec dc_L_tear 12 rfl))))
def b_L_tear_19 (K : m_K) (Q X : m_Po) : m_C := m_con (0, 0) (j_r 0 Q)
set_option maxRecDepth 20000 in
theorem k_L_tear_19 {l : Launch} {bs : Nat} {D : va_G} {Da : Nat → ClassId} (htr : l.stackTraces = false) : m_okb l bs D Da RL cL_tear 6 (some .int) rm_L_tear (tableOf hh_L_tear) "tear" bu_L_tear 19 b_L_tear_19 := fun Q X K hK => (ok_iconst (pc := 19) (And.intro (by decide) (by decide)) (m_dec dc_L_tear 13 rfl) (ok_iret (pc := 20) (And.intro (by decide) (by decide)) rfl (m_dec dc_L_tear 14 rfl)))
def cd_L_tear : m_B := m_tab lv_L_tear [(0, b_L_tear_0), (10, b_L_tear_10), (15, b_L_tear_15), (19, b_L_tear_19)]
def o_L_tear : m_O := m_ent cd_L_tear 6
theorem st_L_tear : m_staW yL_tear cL_tear 6 (some .int) hh_L_tear 5 := ⟨mu_1145, mu_1130, ⟨by decide, by decide⟩, by decide +kernel⟩
theorem s_L_tear {l : Launch} {bs : Nat} {D : va_G} {Da : Nat → ClassId} (htr : l.stackTraces = false) : Snd l bs D Da yL_tear (.codeWith yL_tear cL_tear 6 (some .int) hh_L_tear) (some .int) rm_L_tear o_L_tear := m_methodH (hh := hh_L_tear) (bud := bu_L_tear) htr (by decide) (m_tab_cons (k_L_tear_0 htr) (m_tab_cons (k_L_tear_10 htr) (m_tab_cons (k_L_tear_15 htr) (m_tab_cons (k_L_tear_19 htr) (m_tab_nil)))))
/-! ArchYardLaw.stone(LArchYard;IIII[J)I -/
def dl_L_stone : List (Nat × Instr × Nat) := [(0, .aload 5, 2), (2, .iconst 0, 1), (3, .aload_n 0, 1), (4, .iload_n 1, 1), (5, .iload_n 2, 1), (6, .iload_n 3, 1), (7, .iload 4, 2), (9, .invokevirtual 31, 3), (12, .i2l, 1), (13, .lastore, 1), (14, .goto 11, 3), (17, .astore 6, 2), (19, .iconst 1, 1), (20, .ireturn, 1), (21, .astore 6, 2), (23, .iconst 2, 1), (24, .ireturn, 1), (25, .iconst 0, 1), (26, .ireturn, 1)]
theorem dc_L_stone : m_chk cL_stone dl_L_stone = true := by decide +kernel
abbrev hh_L_stone : List (Nat × Nat × Nat × Nat) := [(0, 14, 17, 21), (0, 14, 21, 13)]
def hs_L_stone : List (Int × Nat) := [(1, 17), (2, 21)]
theorem hk_L_stone_9 : m_hok RL 9 (tableOf hh_L_stone) hs_L_stone := ⟨⟨by decide, by decide, rfl, by decide, mu_1137⟩, ⟨⟨by decide, by decide, rfl, by decide, mu_1132⟩, trivial⟩⟩
abbrev rm_L_stone : Room := { frames := 8, cells := 3, slots := 55, locals := 150 }
abbrev bu_L_stone : Nat → Nat × Nat := fun q => m_bud [(0, 0, 0), (12, 3, 55), (17, 3, 55), (21, 3, 55), (25, 3, 55)] q
def lv_L_stone : Nat → List Nat := fun q => m_liv [(0, [0, 1, 2, 3, 4, 5]), (12, []), (17, []), (21, []), (25, [])] q
def b_L_stone_0 (K : m_K) (Q X : m_Po) : m_C := m_lod 2 5 (m_con (0, 0) (m_lod 2 0 (m_lod 0 1 (m_lod 0 2 (m_lod 0 3 (m_lod 0 4 (m_hV 9 o_X10_stone 5 (some 0) hs_L_stone K (K 12))))))))
set_option maxRecDepth 20000 in
theorem k_L_stone_0 {l : Launch} {bs : Nat} {D : va_G} {Da : Nat → ClassId} (htr : l.stackTraces = false) : m_okb l bs D Da RL cL_stone 7 (some .int) rm_L_stone (tableOf hh_L_stone) "stone" bu_L_stone 0 b_L_stone_0 := fun Q X K hK => (ok_aload (pc := 0) (m_dec dc_L_stone 0 rfl) (ok_iconst (pc := 2) (And.intro (by decide) (by decide)) (m_dec dc_L_stone 1 rfl) (ok_aload_n (pc := 3) rfl (m_dec dc_L_stone 2 rfl) (ok_iload_n (pc := 4) rfl (m_dec dc_L_stone 3 rfl) (ok_iload_n (pc := 5) rfl (m_dec dc_L_stone 4 rfl) (ok_iload_n (pc := 6) rfl (m_dec dc_L_stone 5 rfl) (ok_iload (pc := 7) (m_dec dc_L_stone 6 rfl) (ok_hV (pc := 9) (kk := 9) rfl (by decide) m_cl9 (s_X10_stone htr) (m_site_of st_X10_stone (And.intro (by decide) (by decide)) (And.intro (by decide) (by decide))) mu_1147 (m_dec dc_L_stone 7 rfl) mu_1148 mu_1146 hk_L_stone_9 (List.forall_mem_cons.mpr ⟨(hK 17), List.forall_mem_cons.mpr ⟨(hK 21), fun _ h => absurd h List.not_mem_nil⟩⟩) (hK 12)))))))))
def b_L_stone_12 (K : m_K) (Q X : m_Po) : m_C := m_un 0 1 (fun x => x) (m_ast 101 1 (j_go K 25))
set_option maxRecDepth 20000 in
theorem k_L_stone_12 {l : Launch} {bs : Nat} {D : va_G} {Da : Nat → ClassId} (htr : l.stackTraces = false) : m_okb l bs D Da RL cL_stone 7 (some .int) rm_L_stone (tableOf hh_L_stone) "stone" bu_L_stone 12 b_L_stone_12 := fun Q X K hK => (ok_i2l (pc := 12) (m_dec dc_L_stone 8 rfl) (ok_last (pc := 13) (m_dec dc_L_stone 9 rfl) (ok_go (pc := 14) (m_dec dc_L_stone 10 rfl) rfl (hK 25))))
def b_L_stone_17 (K : m_K) (Q X : m_Po) : m_C := m_sto 2 6 (m_con (0, 1) (j_r 0 Q))
set_option maxRecDepth 20000 in
theorem k_L_stone_17 {l : Launch} {bs : Nat} {D : va_G} {Da : Nat → ClassId} (htr : l.stackTraces = false) : m_okb l bs D Da RL cL_stone 7 (some .int) rm_L_stone (tableOf hh_L_stone) "stone" bu_L_stone 17 b_L_stone_17 := fun Q X K hK => (ok_astore (pc := 17) (by decide) (m_dec dc_L_stone 11 rfl) (ok_iconst (pc := 19) (And.intro (by decide) (by decide)) (m_dec dc_L_stone 12 rfl) (ok_iret (pc := 20) (And.intro (by decide) (by decide)) rfl (m_dec dc_L_stone 13 rfl))))
def b_L_stone_21 (K : m_K) (Q X : m_Po) : m_C := m_sto 2 6 (m_con (0, 2) (j_r 0 Q))
set_option maxRecDepth 20000 in
theorem k_L_stone_21 {l : Launch} {bs : Nat} {D : va_G} {Da : Nat → ClassId} (htr : l.stackTraces = false) : m_okb l bs D Da RL cL_stone 7 (some .int) rm_L_stone (tableOf hh_L_stone) "stone" bu_L_stone 21 b_L_stone_21 := fun Q X K hK => (ok_astore (pc := 21) (by decide) (m_dec dc_L_stone 14 rfl) (ok_iconst (pc := 23) (And.intro (by decide) (by decide)) (m_dec dc_L_stone 15 rfl) (ok_iret (pc := 24) (And.intro (by decide) (by decide)) rfl (m_dec dc_L_stone 16 rfl))))
def b_L_stone_25 (K : m_K) (Q X : m_Po) : m_C := m_con (0, 0) (j_r 0 Q)
set_option maxRecDepth 20000 in
theorem k_L_stone_25 {l : Launch} {bs : Nat} {D : va_G} {Da : Nat → ClassId} (htr : l.stackTraces = false) : m_okb l bs D Da RL cL_stone 7 (some .int) rm_L_stone (tableOf hh_L_stone) "stone" bu_L_stone 25 b_L_stone_25 := fun Q X K hK => (ok_iconst (pc := 25) (And.intro (by decide) (by decide)) (m_dec dc_L_stone 17 rfl) (ok_iret (pc := 26) (And.intro (by decide) (by decide)) rfl (m_dec dc_L_stone 18 rfl)))
def cd_L_stone : m_B := m_tab lv_L_stone [(0, b_L_stone_0), (12, b_L_stone_12), (17, b_L_stone_17), (21, b_L_stone_21), (25, b_L_stone_25)]
def o_L_stone : m_O := m_ent cd_L_stone 7
theorem st_L_stone : m_staW yL_stone cL_stone 7 (some .int) hh_L_stone 6 := ⟨mu_1149, mu_1130, ⟨by decide, by decide⟩, by decide +kernel⟩
theorem s_L_stone {l : Launch} {bs : Nat} {D : va_G} {Da : Nat → ClassId} (htr : l.stackTraces = false) : Snd l bs D Da yL_stone (.codeWith yL_stone cL_stone 7 (some .int) hh_L_stone) (some .int) rm_L_stone o_L_stone := m_methodH (hh := hh_L_stone) (bud := bu_L_stone) htr (by decide) (m_tab_cons (k_L_stone_0 htr) (m_tab_cons (k_L_stone_12 htr) (m_tab_cons (k_L_stone_17 htr) (m_tab_cons (k_L_stone_21 htr) (m_tab_cons (k_L_stone_25 htr) (m_tab_nil))))))
/-! ArchYardLaw.told(LArchYard;II[J)I -/
def dl_L_told : List (Nat × Instr × Nat) := [(0, .aload_n 3, 1), (1, .iconst 0, 1), (2, .aload_n 0, 1), (3, .iload_n 1, 1), (4, .iload_n 2, 1), (5, .invokevirtual 34, 3), (8, .i2l, 1), (9, .lastore, 1), (10, .goto 11, 3), (13, .astore 4, 2), (15, .iconst 1, 1), (16, .ireturn, 1), (17, .astore 4, 2), (19, .iconst 2, 1), (20, .ireturn, 1), (21, .iconst 0, 1), (22, .ireturn, 1)]
theorem dc_L_told : m_chk cL_told dl_L_told = true := by decide +kernel
abbrev hh_L_told : List (Nat × Nat × Nat × Nat) := [(0, 10, 13, 21), (0, 10, 17, 13)]
def hs_L_told : List (Int × Nat) := [(1, 13), (2, 17)]
theorem hk_L_told_5 : m_hok RL 5 (tableOf hh_L_told) hs_L_told := ⟨⟨by decide, by decide, rfl, by decide, mu_1137⟩, ⟨⟨by decide, by decide, rfl, by decide, mu_1132⟩, trivial⟩⟩
abbrev rm_L_told : Room := { frames := 8, cells := 2, slots := 12, locals := 145 }
abbrev bu_L_told : Nat → Nat × Nat := fun q => m_bud [(0, 0, 0), (8, 2, 12), (13, 2, 12), (17, 2, 12), (21, 2, 12)] q
def lv_L_told : Nat → List Nat := fun q => m_liv [(0, [0, 1, 2, 3]), (8, []), (13, []), (17, []), (21, [])] q
def b_L_told_0 (K : m_K) (Q X : m_Po) : m_C := m_lod 2 3 (m_con (0, 0) (m_lod 2 0 (m_lod 0 1 (m_lod 0 2 (m_hV 9 o_X10_told 3 (some 0) hs_L_told K (K 8))))))
set_option maxRecDepth 20000 in
theorem k_L_told_0 {l : Launch} {bs : Nat} {D : va_G} {Da : Nat → ClassId} (htr : l.stackTraces = false) : m_okb l bs D Da RL cL_told 5 (some .int) rm_L_told (tableOf hh_L_told) "told" bu_L_told 0 b_L_told_0 := fun Q X K hK => (ok_aload_n (pc := 0) rfl (m_dec dc_L_told 0 rfl) (ok_iconst (pc := 1) (And.intro (by decide) (by decide)) (m_dec dc_L_told 1 rfl) (ok_aload_n (pc := 2) rfl (m_dec dc_L_told 2 rfl) (ok_iload_n (pc := 3) rfl (m_dec dc_L_told 3 rfl) (ok_iload_n (pc := 4) rfl (m_dec dc_L_told 4 rfl) (ok_hV (pc := 5) (kk := 9) rfl (by decide) m_cl9 (s_X10_told htr) (m_site_of st_X10_told (And.intro (by decide) (by decide)) (And.intro (by decide) (by decide))) mu_1151 (m_dec dc_L_told 5 rfl) mu_1152 mu_1150 hk_L_told_5 (List.forall_mem_cons.mpr ⟨(hK 13), List.forall_mem_cons.mpr ⟨(hK 17), fun _ h => absurd h List.not_mem_nil⟩⟩) (hK 8)))))))
def b_L_told_8 (K : m_K) (Q X : m_Po) : m_C := m_un 0 1 (fun x => x) (m_ast 101 1 (j_go K 21))
set_option maxRecDepth 20000 in
theorem k_L_told_8 {l : Launch} {bs : Nat} {D : va_G} {Da : Nat → ClassId} (htr : l.stackTraces = false) : m_okb l bs D Da RL cL_told 5 (some .int) rm_L_told (tableOf hh_L_told) "told" bu_L_told 8 b_L_told_8 := fun Q X K hK => (ok_i2l (pc := 8) (m_dec dc_L_told 6 rfl) (ok_last (pc := 9) (m_dec dc_L_told 7 rfl) (ok_go (pc := 10) (m_dec dc_L_told 8 rfl) rfl (hK 21))))
def b_L_told_13 (K : m_K) (Q X : m_Po) : m_C := m_sto 2 4 (m_con (0, 1) (j_r 0 Q))
set_option maxRecDepth 20000 in
theorem k_L_told_13 {l : Launch} {bs : Nat} {D : va_G} {Da : Nat → ClassId} (htr : l.stackTraces = false) : m_okb l bs D Da RL cL_told 5 (some .int) rm_L_told (tableOf hh_L_told) "told" bu_L_told 13 b_L_told_13 := fun Q X K hK => (ok_astore (pc := 13) (by decide) (m_dec dc_L_told 9 rfl) (ok_iconst (pc := 15) (And.intro (by decide) (by decide)) (m_dec dc_L_told 10 rfl) (ok_iret (pc := 16) (And.intro (by decide) (by decide)) rfl (m_dec dc_L_told 11 rfl))))
def b_L_told_17 (K : m_K) (Q X : m_Po) : m_C := m_sto 2 4 (m_con (0, 2) (j_r 0 Q))
set_option maxRecDepth 20000 in
theorem k_L_told_17 {l : Launch} {bs : Nat} {D : va_G} {Da : Nat → ClassId} (htr : l.stackTraces = false) : m_okb l bs D Da RL cL_told 5 (some .int) rm_L_told (tableOf hh_L_told) "told" bu_L_told 17 b_L_told_17 := fun Q X K hK => (ok_astore (pc := 17) (by decide) (m_dec dc_L_told 12 rfl) (ok_iconst (pc := 19) (And.intro (by decide) (by decide)) (m_dec dc_L_told 13 rfl) (ok_iret (pc := 20) (And.intro (by decide) (by decide)) rfl (m_dec dc_L_told 14 rfl))))
def b_L_told_21 (K : m_K) (Q X : m_Po) : m_C := m_con (0, 0) (j_r 0 Q)
set_option maxRecDepth 20000 in
theorem k_L_told_21 {l : Launch} {bs : Nat} {D : va_G} {Da : Nat → ClassId} (htr : l.stackTraces = false) : m_okb l bs D Da RL cL_told 5 (some .int) rm_L_told (tableOf hh_L_told) "told" bu_L_told 21 b_L_told_21 := fun Q X K hK => (ok_iconst (pc := 21) (And.intro (by decide) (by decide)) (m_dec dc_L_told 15 rfl) (ok_iret (pc := 22) (And.intro (by decide) (by decide)) rfl (m_dec dc_L_told 16 rfl)))
def cd_L_told : m_B := m_tab lv_L_told [(0, b_L_told_0), (8, b_L_told_8), (13, b_L_told_13), (17, b_L_told_17), (21, b_L_told_21)]
def o_L_told : m_O := m_ent cd_L_told 5
theorem st_L_told : m_staW yL_told cL_told 5 (some .int) hh_L_told 4 := ⟨mu_1153, mu_1130, ⟨by decide, by decide⟩, by decide +kernel⟩
theorem s_L_told {l : Launch} {bs : Nat} {D : va_G} {Da : Nat → ClassId} (htr : l.stackTraces = false) : Snd l bs D Da yL_told (.codeWith yL_told cL_told 5 (some .int) hh_L_told) (some .int) rm_L_told o_L_told := m_methodH (hh := hh_L_told) (bud := bu_L_told) htr (by decide) (m_tab_cons (k_L_told_0 htr) (m_tab_cons (k_L_told_8 htr) (m_tab_cons (k_L_told_13 htr) (m_tab_cons (k_L_told_17 htr) (m_tab_cons (k_L_told_21 htr) (m_tab_nil))))))
/-! ArchYardLaw.arch(LArchYard;I[J)I -/
def dl_L_arch : List (Nat × Instr × Nat) := [(0, .aload_n 2, 1), (1, .iconst 0, 1), (2, .aload_n 0, 1), (3, .iload_n 1, 1), (4, .invokevirtual 38, 3), (7, .i2l, 1), (8, .lastore, 1), (9, .goto 9, 3), (12, .astore_n 3, 1), (13, .iconst 1, 1), (14, .ireturn, 1), (15, .astore_n 3, 1), (16, .iconst 2, 1), (17, .ireturn, 1), (18, .iconst 0, 1), (19, .ireturn, 1)]
theorem dc_L_arch : m_chk cL_arch dl_L_arch = true := by decide +kernel
abbrev hh_L_arch : List (Nat × Nat × Nat × Nat) := [(0, 9, 12, 13), (0, 9, 15, 15)]
def hs_L_arch : List (Int × Nat) := [(2, 12), (3, 15)]
theorem hk_L_arch_4 : m_hok RL 4 (tableOf hh_L_arch) hs_L_arch := ⟨⟨by decide, by decide, rfl, by decide, mu_1132⟩, ⟨⟨by decide, by decide, rfl, by decide, mu_1131⟩, trivial⟩⟩
abbrev rm_L_arch : Room := { frames := 7, cells := 11, slots := 130, locals := 121 }
abbrev bu_L_arch : Nat → Nat × Nat := fun q => m_bud [(0, 0, 0), (7, 11, 130), (12, 11, 130), (15, 11, 130), (18, 11, 130)] q
def lv_L_arch : Nat → List Nat := fun q => m_liv [(0, [0, 1, 2]), (7, []), (12, []), (15, []), (18, [])] q
def b_L_arch_0 (K : m_K) (Q X : m_Po) : m_C := m_lod 2 2 (m_con (0, 0) (m_lod 2 0 (m_lod 0 1 (m_hV 9 o_X10_arch 2 (some 0) hs_L_arch K (K 7)))))
set_option maxRecDepth 20000 in
theorem k_L_arch_0 {l : Launch} {bs : Nat} {D : va_G} {Da : Nat → ClassId} (htr : l.stackTraces = false) : m_okb l bs D Da RL cL_arch 4 (some .int) rm_L_arch (tableOf hh_L_arch) "arch" bu_L_arch 0 b_L_arch_0 := fun Q X K hK => (ok_aload_n (pc := 0) rfl (m_dec dc_L_arch 0 rfl) (ok_iconst (pc := 1) (And.intro (by decide) (by decide)) (m_dec dc_L_arch 1 rfl) (ok_aload_n (pc := 2) rfl (m_dec dc_L_arch 2 rfl) (ok_iload_n (pc := 3) rfl (m_dec dc_L_arch 3 rfl) (ok_hV (pc := 4) (kk := 9) rfl (by decide) m_cl9 (s_X10_arch htr) (m_site_of st_X10_arch (And.intro (by decide) (by decide)) (And.intro (by decide) (by decide))) mu_1155 (m_dec dc_L_arch 4 rfl) mu_1156 mu_1154 hk_L_arch_4 (List.forall_mem_cons.mpr ⟨(hK 12), List.forall_mem_cons.mpr ⟨(hK 15), fun _ h => absurd h List.not_mem_nil⟩⟩) (hK 7))))))
def b_L_arch_7 (K : m_K) (Q X : m_Po) : m_C := m_un 0 1 (fun x => x) (m_ast 101 1 (j_go K 18))
set_option maxRecDepth 20000 in
theorem k_L_arch_7 {l : Launch} {bs : Nat} {D : va_G} {Da : Nat → ClassId} (htr : l.stackTraces = false) : m_okb l bs D Da RL cL_arch 4 (some .int) rm_L_arch (tableOf hh_L_arch) "arch" bu_L_arch 7 b_L_arch_7 := fun Q X K hK => (ok_i2l (pc := 7) (m_dec dc_L_arch 5 rfl) (ok_last (pc := 8) (m_dec dc_L_arch 6 rfl) (ok_go (pc := 9) (m_dec dc_L_arch 7 rfl) rfl (hK 18))))
def b_L_arch_12 (K : m_K) (Q X : m_Po) : m_C := m_sto 2 3 (m_con (0, 1) (j_r 0 Q))
set_option maxRecDepth 20000 in
theorem k_L_arch_12 {l : Launch} {bs : Nat} {D : va_G} {Da : Nat → ClassId} (htr : l.stackTraces = false) : m_okb l bs D Da RL cL_arch 4 (some .int) rm_L_arch (tableOf hh_L_arch) "arch" bu_L_arch 12 b_L_arch_12 := fun Q X K hK => (ok_astore_n (pc := 12) rfl (by decide) (m_dec dc_L_arch 8 rfl) (ok_iconst (pc := 13) (And.intro (by decide) (by decide)) (m_dec dc_L_arch 9 rfl) (ok_iret (pc := 14) (And.intro (by decide) (by decide)) rfl (m_dec dc_L_arch 10 rfl))))
def b_L_arch_15 (K : m_K) (Q X : m_Po) : m_C := m_sto 2 3 (m_con (0, 2) (j_r 0 Q))
set_option maxRecDepth 20000 in
theorem k_L_arch_15 {l : Launch} {bs : Nat} {D : va_G} {Da : Nat → ClassId} (htr : l.stackTraces = false) : m_okb l bs D Da RL cL_arch 4 (some .int) rm_L_arch (tableOf hh_L_arch) "arch" bu_L_arch 15 b_L_arch_15 := fun Q X K hK => (ok_astore_n (pc := 15) rfl (by decide) (m_dec dc_L_arch 11 rfl) (ok_iconst (pc := 16) (And.intro (by decide) (by decide)) (m_dec dc_L_arch 12 rfl) (ok_iret (pc := 17) (And.intro (by decide) (by decide)) rfl (m_dec dc_L_arch 13 rfl))))
def b_L_arch_18 (K : m_K) (Q X : m_Po) : m_C := m_con (0, 0) (j_r 0 Q)
set_option maxRecDepth 20000 in
theorem k_L_arch_18 {l : Launch} {bs : Nat} {D : va_G} {Da : Nat → ClassId} (htr : l.stackTraces = false) : m_okb l bs D Da RL cL_arch 4 (some .int) rm_L_arch (tableOf hh_L_arch) "arch" bu_L_arch 18 b_L_arch_18 := fun Q X K hK => (ok_iconst (pc := 18) (And.intro (by decide) (by decide)) (m_dec dc_L_arch 14 rfl) (ok_iret (pc := 19) (And.intro (by decide) (by decide)) rfl (m_dec dc_L_arch 15 rfl)))
def cd_L_arch : m_B := m_tab lv_L_arch [(0, b_L_arch_0), (7, b_L_arch_7), (12, b_L_arch_12), (15, b_L_arch_15), (18, b_L_arch_18)]
def o_L_arch : m_O := m_ent cd_L_arch 4
theorem st_L_arch : m_staW yL_arch cL_arch 4 (some .int) hh_L_arch 3 := ⟨mu_1157, mu_1130, ⟨by decide, by decide⟩, by decide +kernel⟩
theorem s_L_arch {l : Launch} {bs : Nat} {D : va_G} {Da : Nat → ClassId} (htr : l.stackTraces = false) : Snd l bs D Da yL_arch (.codeWith yL_arch cL_arch 4 (some .int) hh_L_arch) (some .int) rm_L_arch o_L_arch := m_methodH (hh := hh_L_arch) (bud := bu_L_arch) htr (by decide) (m_tab_cons (k_L_arch_0 htr) (m_tab_cons (k_L_arch_7 htr) (m_tab_cons (k_L_arch_12 htr) (m_tab_cons (k_L_arch_15 htr) (m_tab_cons (k_L_arch_18 htr) (m_tab_nil))))))
/-! ArchYardLaw.pier(LArchYard;IIIIII)I -/
def dl_L_pier : List (Nat × Instr × Nat) := [(0, .aload_n 0, 1), (1, .iload_n 1, 1), (2, .iload_n 2, 1), (3, .iload_n 3, 1), (4, .iload 4, 2), (6, .iload 5, 2), (8, .iload 6, 2), (10, .invokevirtual 41, 3), (13, .goto 11, 3), (16, .astore 7, 2), (18, .iconst 1, 1), (19, .ireturn, 1), (20, .astore 7, 2), (22, .iconst 2, 1), (23, .ireturn, 1), (24, .iconst 0, 1), (25, .ireturn, 1)]
theorem dc_L_pier : m_chk cL_pier dl_L_pier = true := by decide +kernel
abbrev hh_L_pier : List (Nat × Nat × Nat × Nat) := [(0, 13, 16, 21), (0, 13, 20, 13)]
def hs_L_pier : List (Int × Nat) := [(1, 16), (2, 20)]
theorem hk_L_pier_10 : m_hok RL 10 (tableOf hh_L_pier) hs_L_pier := ⟨⟨by decide, by decide, rfl, by decide, mu_1137⟩, ⟨⟨by decide, by decide, rfl, by decide, mu_1132⟩, trivial⟩⟩
abbrev rm_L_pier : Room := { frames := 8, cells := 2, slots := 12, locals := 149 }
abbrev bu_L_pier : Nat → Nat × Nat := fun q => m_bud [(0, 0, 0), (13, 2, 12), (16, 2, 12), (20, 2, 12), (24, 2, 12)] q
def lv_L_pier : Nat → List Nat := fun q => m_liv [(0, [0, 1, 2, 3, 4, 5, 6]), (13, []), (16, []), (20, []), (24, [])] q
def b_L_pier_0 (K : m_K) (Q X : m_Po) : m_C := m_lod 2 0 (m_lod 0 1 (m_lod 0 2 (m_lod 0 3 (m_lod 0 4 (m_lod 0 5 (m_lod 0 6 (m_hV 9 o_X10_pier 7 none hs_L_pier K (K 13))))))))
set_option maxRecDepth 20000 in
theorem k_L_pier_0 {l : Launch} {bs : Nat} {D : va_G} {Da : Nat → ClassId} (htr : l.stackTraces = false) : m_okb l bs D Da RL cL_pier 8 (some .int) rm_L_pier (tableOf hh_L_pier) "pier" bu_L_pier 0 b_L_pier_0 := fun Q X K hK => (ok_aload_n (pc := 0) rfl (m_dec dc_L_pier 0 rfl) (ok_iload_n (pc := 1) rfl (m_dec dc_L_pier 1 rfl) (ok_iload_n (pc := 2) rfl (m_dec dc_L_pier 2 rfl) (ok_iload_n (pc := 3) rfl (m_dec dc_L_pier 3 rfl) (ok_iload (pc := 4) (m_dec dc_L_pier 4 rfl) (ok_iload (pc := 6) (m_dec dc_L_pier 5 rfl) (ok_iload (pc := 8) (m_dec dc_L_pier 6 rfl) (ok_hV (pc := 10) (kk := 9) rfl (by decide) m_cl9 (s_X10_pier htr) (m_site_of st_X10_pier (And.intro (by decide) (by decide)) (And.intro (by decide) (by decide))) mu_1159 (m_dec dc_L_pier 7 rfl) mu_1160 mu_1158 hk_L_pier_10 (List.forall_mem_cons.mpr ⟨(hK 16), List.forall_mem_cons.mpr ⟨(hK 20), fun _ h => absurd h List.not_mem_nil⟩⟩) (hK 13)))))))))
def b_L_pier_13 (K : m_K) (Q X : m_Po) : m_C := j_go K 24
set_option maxRecDepth 20000 in
theorem k_L_pier_13 {l : Launch} {bs : Nat} {D : va_G} {Da : Nat → ClassId} (htr : l.stackTraces = false) : m_okb l bs D Da RL cL_pier 8 (some .int) rm_L_pier (tableOf hh_L_pier) "pier" bu_L_pier 13 b_L_pier_13 := fun Q X K hK => (ok_go (pc := 13) (m_dec dc_L_pier 8 rfl) rfl (hK 24))
def b_L_pier_16 (K : m_K) (Q X : m_Po) : m_C := m_sto 2 7 (m_con (0, 1) (j_r 0 Q))
set_option maxRecDepth 20000 in
theorem k_L_pier_16 {l : Launch} {bs : Nat} {D : va_G} {Da : Nat → ClassId} (htr : l.stackTraces = false) : m_okb l bs D Da RL cL_pier 8 (some .int) rm_L_pier (tableOf hh_L_pier) "pier" bu_L_pier 16 b_L_pier_16 := fun Q X K hK => (ok_astore (pc := 16) (by decide) (m_dec dc_L_pier 9 rfl) (ok_iconst (pc := 18) (And.intro (by decide) (by decide)) (m_dec dc_L_pier 10 rfl) (ok_iret (pc := 19) (And.intro (by decide) (by decide)) rfl (m_dec dc_L_pier 11 rfl))))
def b_L_pier_20 (K : m_K) (Q X : m_Po) : m_C := m_sto 2 7 (m_con (0, 2) (j_r 0 Q))
set_option maxRecDepth 20000 in
theorem k_L_pier_20 {l : Launch} {bs : Nat} {D : va_G} {Da : Nat → ClassId} (htr : l.stackTraces = false) : m_okb l bs D Da RL cL_pier 8 (some .int) rm_L_pier (tableOf hh_L_pier) "pier" bu_L_pier 20 b_L_pier_20 := fun Q X K hK => (ok_astore (pc := 20) (by decide) (m_dec dc_L_pier 12 rfl) (ok_iconst (pc := 22) (And.intro (by decide) (by decide)) (m_dec dc_L_pier 13 rfl) (ok_iret (pc := 23) (And.intro (by decide) (by decide)) rfl (m_dec dc_L_pier 14 rfl))))
def b_L_pier_24 (K : m_K) (Q X : m_Po) : m_C := m_con (0, 0) (j_r 0 Q)
set_option maxRecDepth 20000 in
theorem k_L_pier_24 {l : Launch} {bs : Nat} {D : va_G} {Da : Nat → ClassId} (htr : l.stackTraces = false) : m_okb l bs D Da RL cL_pier 8 (some .int) rm_L_pier (tableOf hh_L_pier) "pier" bu_L_pier 24 b_L_pier_24 := fun Q X K hK => (ok_iconst (pc := 24) (And.intro (by decide) (by decide)) (m_dec dc_L_pier 15 rfl) (ok_iret (pc := 25) (And.intro (by decide) (by decide)) rfl (m_dec dc_L_pier 16 rfl)))
def cd_L_pier : m_B := m_tab lv_L_pier [(0, b_L_pier_0), (13, b_L_pier_13), (16, b_L_pier_16), (20, b_L_pier_20), (24, b_L_pier_24)]
def o_L_pier : m_O := m_ent cd_L_pier 8
theorem st_L_pier : m_staW yL_pier cL_pier 8 (some .int) hh_L_pier 7 := ⟨mu_1161, mu_1130, ⟨by decide, by decide⟩, by decide +kernel⟩
theorem s_L_pier {l : Launch} {bs : Nat} {D : va_G} {Da : Nat → ClassId} (htr : l.stackTraces = false) : Snd l bs D Da yL_pier (.codeWith yL_pier cL_pier 8 (some .int) hh_L_pier) (some .int) rm_L_pier o_L_pier := m_methodH (hh := hh_L_pier) (bud := bu_L_pier) htr (by decide) (m_tab_cons (k_L_pier_0 htr) (m_tab_cons (k_L_pier_13 htr) (m_tab_cons (k_L_pier_16 htr) (m_tab_cons (k_L_pier_20 htr) (m_tab_cons (k_L_pier_24 htr) (m_tab_nil))))))
/-! ArchYardLaw.place(LArchYard;III)I -/
def dl_L_place : List (Nat × Instr × Nat) := [(0, .aload_n 0, 1), (1, .iload_n 1, 1), (2, .iload_n 2, 1), (3, .iload_n 3, 1), (4, .invokevirtual 45, 3), (7, .goto 7, 3), (10, .astore 4, 2), (12, .iconst 1, 1), (13, .ireturn, 1), (14, .iconst 0, 1), (15, .ireturn, 1)]
theorem dc_L_place : m_chk cL_place dl_L_place = true := by decide +kernel
abbrev hh_L_place : List (Nat × Nat × Nat × Nat) := [(0, 7, 10, 21)]
def hs_L_place : List (Int × Nat) := [(1, 10)]
theorem hk_L_place_4 : m_hok RL 4 (tableOf hh_L_place) hs_L_place := ⟨⟨by decide, by decide, rfl, by decide, mu_1137⟩, trivial⟩
abbrev rm_L_place : Room := { frames := 9, cells := 3, slots := 18, locals := 169 }
abbrev bu_L_place : Nat → Nat × Nat := fun q => m_bud [(0, 0, 0), (7, 3, 18), (10, 3, 18), (14, 3, 18)] q
def lv_L_place : Nat → List Nat := fun q => m_liv [(0, [0, 1, 2, 3]), (7, []), (10, []), (14, [])] q
def b_L_place_0 (K : m_K) (Q X : m_Po) : m_C := m_lod 2 0 (m_lod 0 1 (m_lod 0 2 (m_lod 0 3 (m_hV 9 o_X10_place 4 none hs_L_place K (K 7)))))
set_option maxRecDepth 20000 in
theorem k_L_place_0 {l : Launch} {bs : Nat} {D : va_G} {Da : Nat → ClassId} (htr : l.stackTraces = false) : m_okb l bs D Da RL cL_place 5 (some .int) rm_L_place (tableOf hh_L_place) "place" bu_L_place 0 b_L_place_0 := fun Q X K hK => (ok_aload_n (pc := 0) rfl (m_dec dc_L_place 0 rfl) (ok_iload_n (pc := 1) rfl (m_dec dc_L_place 1 rfl) (ok_iload_n (pc := 2) rfl (m_dec dc_L_place 2 rfl) (ok_iload_n (pc := 3) rfl (m_dec dc_L_place 3 rfl) (ok_hV (pc := 4) (kk := 9) rfl (by decide) m_cl9 (s_X10_place htr) (m_site_of st_X10_place (And.intro (by decide) (by decide)) (And.intro (by decide) (by decide))) mu_1163 (m_dec dc_L_place 4 rfl) mu_1164 mu_1162 hk_L_place_4 (List.forall_mem_cons.mpr ⟨(hK 10), fun _ h => absurd h List.not_mem_nil⟩) (hK 7))))))
def b_L_place_7 (K : m_K) (Q X : m_Po) : m_C := j_go K 14
set_option maxRecDepth 20000 in
theorem k_L_place_7 {l : Launch} {bs : Nat} {D : va_G} {Da : Nat → ClassId} (htr : l.stackTraces = false) : m_okb l bs D Da RL cL_place 5 (some .int) rm_L_place (tableOf hh_L_place) "place" bu_L_place 7 b_L_place_7 := fun Q X K hK => (ok_go (pc := 7) (m_dec dc_L_place 5 rfl) rfl (hK 14))
def b_L_place_10 (K : m_K) (Q X : m_Po) : m_C := m_sto 2 4 (m_con (0, 1) (j_r 0 Q))
set_option maxRecDepth 20000 in
theorem k_L_place_10 {l : Launch} {bs : Nat} {D : va_G} {Da : Nat → ClassId} (htr : l.stackTraces = false) : m_okb l bs D Da RL cL_place 5 (some .int) rm_L_place (tableOf hh_L_place) "place" bu_L_place 10 b_L_place_10 := fun Q X K hK => (ok_astore (pc := 10) (by decide) (m_dec dc_L_place 6 rfl) (ok_iconst (pc := 12) (And.intro (by decide) (by decide)) (m_dec dc_L_place 7 rfl) (ok_iret (pc := 13) (And.intro (by decide) (by decide)) rfl (m_dec dc_L_place 8 rfl))))
def b_L_place_14 (K : m_K) (Q X : m_Po) : m_C := m_con (0, 0) (j_r 0 Q)
set_option maxRecDepth 20000 in
theorem k_L_place_14 {l : Launch} {bs : Nat} {D : va_G} {Da : Nat → ClassId} (htr : l.stackTraces = false) : m_okb l bs D Da RL cL_place 5 (some .int) rm_L_place (tableOf hh_L_place) "place" bu_L_place 14 b_L_place_14 := fun Q X K hK => (ok_iconst (pc := 14) (And.intro (by decide) (by decide)) (m_dec dc_L_place 9 rfl) (ok_iret (pc := 15) (And.intro (by decide) (by decide)) rfl (m_dec dc_L_place 10 rfl)))
def cd_L_place : m_B := m_tab lv_L_place [(0, b_L_place_0), (7, b_L_place_7), (10, b_L_place_10), (14, b_L_place_14)]
def o_L_place : m_O := m_ent cd_L_place 5
theorem st_L_place : m_staW yL_place cL_place 5 (some .int) hh_L_place 4 := ⟨mu_1165, mu_1130, ⟨by decide, by decide⟩, by decide +kernel⟩
theorem s_L_place {l : Launch} {bs : Nat} {D : va_G} {Da : Nat → ClassId} (htr : l.stackTraces = false) : Snd l bs D Da yL_place (.codeWith yL_place cL_place 5 (some .int) hh_L_place) (some .int) rm_L_place o_L_place := m_methodH (hh := hh_L_place) (bud := bu_L_place) htr (by decide) (m_tab_cons (k_L_place_0 htr) (m_tab_cons (k_L_place_7 htr) (m_tab_cons (k_L_place_10 htr) (m_tab_cons (k_L_place_14 htr) (m_tab_nil)))))
/-! ArchYardLaw.there(LArchYard;II[J)I -/
def dl_L_there : List (Nat × Instr × Nat) := [(0, .aload_n 3, 1), (1, .iconst 0, 1), (2, .aload_n 0, 1), (3, .iload_n 1, 1), (4, .iload_n 2, 1), (5, .invokevirtual 48, 3), (8, .i2l, 1), (9, .lastore, 1), (10, .goto 7, 3), (13, .astore 4, 2), (15, .iconst 1, 1), (16, .ireturn, 1), (17, .iconst 0, 1), (18, .ireturn, 1)]
theorem dc_L_there : m_chk cL_there dl_L_there = true := by decide +kernel
abbrev hh_L_there : List (Nat × Nat × Nat × Nat) := [(0, 10, 13, 21)]
def hs_L_there : List (Int × Nat) := [(1, 13)]
theorem hk_L_there_5 : m_hok RL 5 (tableOf hh_L_there) hs_L_there := ⟨⟨by decide, by decide, rfl, by decide, mu_1137⟩, trivial⟩
abbrev rm_L_there : Room := { frames := 9, cells := 2, slots := 12, locals := 167 }
abbrev bu_L_there : Nat → Nat × Nat := fun q => m_bud [(0, 0, 0), (8, 2, 12), (13, 2, 12), (17, 2, 12)] q
def lv_L_there : Nat → List Nat := fun q => m_liv [(0, [0, 1, 2, 3]), (8, []), (13, []), (17, [])] q
def b_L_there_0 (K : m_K) (Q X : m_Po) : m_C := m_lod 2 3 (m_con (0, 0) (m_lod 2 0 (m_lod 0 1 (m_lod 0 2 (m_hV 9 o_X10_there 3 (some 0) hs_L_there K (K 8))))))
set_option maxRecDepth 20000 in
theorem k_L_there_0 {l : Launch} {bs : Nat} {D : va_G} {Da : Nat → ClassId} (htr : l.stackTraces = false) : m_okb l bs D Da RL cL_there 5 (some .int) rm_L_there (tableOf hh_L_there) "there" bu_L_there 0 b_L_there_0 := fun Q X K hK => (ok_aload_n (pc := 0) rfl (m_dec dc_L_there 0 rfl) (ok_iconst (pc := 1) (And.intro (by decide) (by decide)) (m_dec dc_L_there 1 rfl) (ok_aload_n (pc := 2) rfl (m_dec dc_L_there 2 rfl) (ok_iload_n (pc := 3) rfl (m_dec dc_L_there 3 rfl) (ok_iload_n (pc := 4) rfl (m_dec dc_L_there 4 rfl) (ok_hV (pc := 5) (kk := 9) rfl (by decide) m_cl9 (s_X10_there htr) (m_site_of st_X10_there (And.intro (by decide) (by decide)) (And.intro (by decide) (by decide))) mu_1167 (m_dec dc_L_there 5 rfl) mu_1168 mu_1166 hk_L_there_5 (List.forall_mem_cons.mpr ⟨(hK 13), fun _ h => absurd h List.not_mem_nil⟩) (hK 8)))))))
def b_L_there_8 (K : m_K) (Q X : m_Po) : m_C := m_un 0 1 (fun x => x) (m_ast 101 1 (j_go K 17))
set_option maxRecDepth 20000 in
theorem k_L_there_8 {l : Launch} {bs : Nat} {D : va_G} {Da : Nat → ClassId} (htr : l.stackTraces = false) : m_okb l bs D Da RL cL_there 5 (some .int) rm_L_there (tableOf hh_L_there) "there" bu_L_there 8 b_L_there_8 := fun Q X K hK => (ok_i2l (pc := 8) (m_dec dc_L_there 6 rfl) (ok_last (pc := 9) (m_dec dc_L_there 7 rfl) (ok_go (pc := 10) (m_dec dc_L_there 8 rfl) rfl (hK 17))))
def b_L_there_13 (K : m_K) (Q X : m_Po) : m_C := m_sto 2 4 (m_con (0, 1) (j_r 0 Q))
set_option maxRecDepth 20000 in
theorem k_L_there_13 {l : Launch} {bs : Nat} {D : va_G} {Da : Nat → ClassId} (htr : l.stackTraces = false) : m_okb l bs D Da RL cL_there 5 (some .int) rm_L_there (tableOf hh_L_there) "there" bu_L_there 13 b_L_there_13 := fun Q X K hK => (ok_astore (pc := 13) (by decide) (m_dec dc_L_there 9 rfl) (ok_iconst (pc := 15) (And.intro (by decide) (by decide)) (m_dec dc_L_there 10 rfl) (ok_iret (pc := 16) (And.intro (by decide) (by decide)) rfl (m_dec dc_L_there 11 rfl))))
def b_L_there_17 (K : m_K) (Q X : m_Po) : m_C := m_con (0, 0) (j_r 0 Q)
set_option maxRecDepth 20000 in
theorem k_L_there_17 {l : Launch} {bs : Nat} {D : va_G} {Da : Nat → ClassId} (htr : l.stackTraces = false) : m_okb l bs D Da RL cL_there 5 (some .int) rm_L_there (tableOf hh_L_there) "there" bu_L_there 17 b_L_there_17 := fun Q X K hK => (ok_iconst (pc := 17) (And.intro (by decide) (by decide)) (m_dec dc_L_there 12 rfl) (ok_iret (pc := 18) (And.intro (by decide) (by decide)) rfl (m_dec dc_L_there 13 rfl)))
def cd_L_there : m_B := m_tab lv_L_there [(0, b_L_there_0), (8, b_L_there_8), (13, b_L_there_13), (17, b_L_there_17)]
def o_L_there : m_O := m_ent cd_L_there 5
theorem st_L_there : m_staW yL_there cL_there 5 (some .int) hh_L_there 4 := ⟨mu_1169, mu_1130, ⟨by decide, by decide⟩, by decide +kernel⟩
theorem s_L_there {l : Launch} {bs : Nat} {D : va_G} {Da : Nat → ClassId} (htr : l.stackTraces = false) : Snd l bs D Da yL_there (.codeWith yL_there cL_there 5 (some .int) hh_L_there) (some .int) rm_L_there o_L_there := m_methodH (hh := hh_L_there) (bud := bu_L_there) htr (by decide) (m_tab_cons (k_L_there_0 htr) (m_tab_cons (k_L_there_8 htr) (m_tab_cons (k_L_there_13 htr) (m_tab_cons (k_L_there_17 htr) (m_tab_nil)))))
/-! ArchYardLaw.load(LArchYard;IIII[J)I -/
def dl_L_load : List (Nat × Instr × Nat) := [(0, .aload 5, 2), (2, .iconst 0, 1), (3, .aload_n 0, 1), (4, .iload_n 1, 1), (5, .iload_n 2, 1), (6, .iload_n 3, 1), (7, .iload 4, 2), (9, .invokevirtual 51, 3), (12, .i2l, 1), (13, .lastore, 1), (14, .goto 11, 3), (17, .astore 6, 2), (19, .iconst 1, 1), (20, .ireturn, 1), (21, .astore 6, 2), (23, .iconst 2, 1), (24, .ireturn, 1), (25, .iconst 0, 1), (26, .ireturn, 1)]
theorem dc_L_load : m_chk cL_load dl_L_load = true := by decide +kernel
abbrev hh_L_load : List (Nat × Nat × Nat × Nat) := [(0, 14, 17, 21), (0, 14, 21, 13)]
def hs_L_load : List (Int × Nat) := [(1, 17), (2, 21)]
theorem hk_L_load_9 : m_hok RL 9 (tableOf hh_L_load) hs_L_load := ⟨⟨by decide, by decide, rfl, by decide, mu_1137⟩, ⟨⟨by decide, by decide, rfl, by decide, mu_1132⟩, trivial⟩⟩
abbrev rm_L_load : Room := { frames := 9, cells := 3, slots := 18, locals := 170 }
abbrev bu_L_load : Nat → Nat × Nat := fun q => m_bud [(0, 0, 0), (12, 3, 18), (17, 3, 18), (21, 3, 18), (25, 3, 18)] q
def lv_L_load : Nat → List Nat := fun q => m_liv [(0, [0, 1, 2, 3, 4, 5]), (12, []), (17, []), (21, []), (25, [])] q
def b_L_load_0 (K : m_K) (Q X : m_Po) : m_C := m_lod 2 5 (m_con (0, 0) (m_lod 2 0 (m_lod 0 1 (m_lod 0 2 (m_lod 0 3 (m_lod 0 4 (m_hV 9 o_X10_load 5 (some 0) hs_L_load K (K 12))))))))
set_option maxRecDepth 20000 in
theorem k_L_load_0 {l : Launch} {bs : Nat} {D : va_G} {Da : Nat → ClassId} (htr : l.stackTraces = false) : m_okb l bs D Da RL cL_load 7 (some .int) rm_L_load (tableOf hh_L_load) "load" bu_L_load 0 b_L_load_0 := fun Q X K hK => (ok_aload (pc := 0) (m_dec dc_L_load 0 rfl) (ok_iconst (pc := 2) (And.intro (by decide) (by decide)) (m_dec dc_L_load 1 rfl) (ok_aload_n (pc := 3) rfl (m_dec dc_L_load 2 rfl) (ok_iload_n (pc := 4) rfl (m_dec dc_L_load 3 rfl) (ok_iload_n (pc := 5) rfl (m_dec dc_L_load 4 rfl) (ok_iload_n (pc := 6) rfl (m_dec dc_L_load 5 rfl) (ok_iload (pc := 7) (m_dec dc_L_load 6 rfl) (ok_hV (pc := 9) (kk := 9) rfl (by decide) m_cl9 (s_X10_load htr) (m_site_of st_X10_load (And.intro (by decide) (by decide)) (And.intro (by decide) (by decide))) mu_1171 (m_dec dc_L_load 7 rfl) mu_1172 mu_1170 hk_L_load_9 (List.forall_mem_cons.mpr ⟨(hK 17), List.forall_mem_cons.mpr ⟨(hK 21), fun _ h => absurd h List.not_mem_nil⟩⟩) (hK 12)))))))))
def b_L_load_12 (K : m_K) (Q X : m_Po) : m_C := m_un 0 1 (fun x => x) (m_ast 101 1 (j_go K 25))
set_option maxRecDepth 20000 in
theorem k_L_load_12 {l : Launch} {bs : Nat} {D : va_G} {Da : Nat → ClassId} (htr : l.stackTraces = false) : m_okb l bs D Da RL cL_load 7 (some .int) rm_L_load (tableOf hh_L_load) "load" bu_L_load 12 b_L_load_12 := fun Q X K hK => (ok_i2l (pc := 12) (m_dec dc_L_load 8 rfl) (ok_last (pc := 13) (m_dec dc_L_load 9 rfl) (ok_go (pc := 14) (m_dec dc_L_load 10 rfl) rfl (hK 25))))
def b_L_load_17 (K : m_K) (Q X : m_Po) : m_C := m_sto 2 6 (m_con (0, 1) (j_r 0 Q))
set_option maxRecDepth 20000 in
theorem k_L_load_17 {l : Launch} {bs : Nat} {D : va_G} {Da : Nat → ClassId} (htr : l.stackTraces = false) : m_okb l bs D Da RL cL_load 7 (some .int) rm_L_load (tableOf hh_L_load) "load" bu_L_load 17 b_L_load_17 := fun Q X K hK => (ok_astore (pc := 17) (by decide) (m_dec dc_L_load 11 rfl) (ok_iconst (pc := 19) (And.intro (by decide) (by decide)) (m_dec dc_L_load 12 rfl) (ok_iret (pc := 20) (And.intro (by decide) (by decide)) rfl (m_dec dc_L_load 13 rfl))))
def b_L_load_21 (K : m_K) (Q X : m_Po) : m_C := m_sto 2 6 (m_con (0, 2) (j_r 0 Q))
set_option maxRecDepth 20000 in
theorem k_L_load_21 {l : Launch} {bs : Nat} {D : va_G} {Da : Nat → ClassId} (htr : l.stackTraces = false) : m_okb l bs D Da RL cL_load 7 (some .int) rm_L_load (tableOf hh_L_load) "load" bu_L_load 21 b_L_load_21 := fun Q X K hK => (ok_astore (pc := 21) (by decide) (m_dec dc_L_load 14 rfl) (ok_iconst (pc := 23) (And.intro (by decide) (by decide)) (m_dec dc_L_load 15 rfl) (ok_iret (pc := 24) (And.intro (by decide) (by decide)) rfl (m_dec dc_L_load 16 rfl))))
def b_L_load_25 (K : m_K) (Q X : m_Po) : m_C := m_con (0, 0) (j_r 0 Q)
set_option maxRecDepth 20000 in
theorem k_L_load_25 {l : Launch} {bs : Nat} {D : va_G} {Da : Nat → ClassId} (htr : l.stackTraces = false) : m_okb l bs D Da RL cL_load 7 (some .int) rm_L_load (tableOf hh_L_load) "load" bu_L_load 25 b_L_load_25 := fun Q X K hK => (ok_iconst (pc := 25) (And.intro (by decide) (by decide)) (m_dec dc_L_load 17 rfl) (ok_iret (pc := 26) (And.intro (by decide) (by decide)) rfl (m_dec dc_L_load 18 rfl)))
def cd_L_load : m_B := m_tab lv_L_load [(0, b_L_load_0), (12, b_L_load_12), (17, b_L_load_17), (21, b_L_load_21), (25, b_L_load_25)]
def o_L_load : m_O := m_ent cd_L_load 7
theorem st_L_load : m_staW yL_load cL_load 7 (some .int) hh_L_load 6 := ⟨mu_1173, mu_1130, ⟨by decide, by decide⟩, by decide +kernel⟩
theorem s_L_load {l : Launch} {bs : Nat} {D : va_G} {Da : Nat → ClassId} (htr : l.stackTraces = false) : Snd l bs D Da yL_load (.codeWith yL_load cL_load 7 (some .int) hh_L_load) (some .int) rm_L_load o_L_load := m_methodH (hh := hh_L_load) (bud := bu_L_load) htr (by decide) (m_tab_cons (k_L_load_0 htr) (m_tab_cons (k_L_load_12 htr) (m_tab_cons (k_L_load_17 htr) (m_tab_cons (k_L_load_21 htr) (m_tab_cons (k_L_load_25 htr) (m_tab_nil))))))
/-! ArchYardLaw.slope(LArchYard;III)I -/
def dl_L_slope : List (Nat × Instr × Nat) := [(0, .aload_n 0, 1), (1, .iload_n 1, 1), (2, .iload_n 2, 1), (3, .iload_n 3, 1), (4, .invokevirtual 54, 3), (7, .goto 11, 3), (10, .astore 4, 2), (12, .iconst 1, 1), (13, .ireturn, 1), (14, .astore 4, 2), (16, .iconst 2, 1), (17, .ireturn, 1), (18, .iconst 0, 1), (19, .ireturn, 1)]
theorem dc_L_slope : m_chk cL_slope dl_L_slope = true := by decide +kernel
abbrev hh_L_slope : List (Nat × Nat × Nat × Nat) := [(0, 7, 10, 21), (0, 7, 14, 13)]
def hs_L_slope : List (Int × Nat) := [(1, 10), (2, 14)]
theorem hk_L_slope_4 : m_hok RL 4 (tableOf hh_L_slope) hs_L_slope := ⟨⟨by decide, by decide, rfl, by decide, mu_1137⟩, ⟨⟨by decide, by decide, rfl, by decide, mu_1132⟩, trivial⟩⟩
abbrev rm_L_slope : Room := { frames := 8, cells := 2, slots := 12, locals := 146 }
abbrev bu_L_slope : Nat → Nat × Nat := fun q => m_bud [(0, 0, 0), (7, 2, 12), (10, 2, 12), (14, 2, 12), (18, 2, 12)] q
def lv_L_slope : Nat → List Nat := fun q => m_liv [(0, [0, 1, 2, 3]), (7, []), (10, []), (14, []), (18, [])] q
def b_L_slope_0 (K : m_K) (Q X : m_Po) : m_C := m_lod 2 0 (m_lod 0 1 (m_lod 0 2 (m_lod 0 3 (m_hV 9 o_X10_slope 4 none hs_L_slope K (K 7)))))
set_option maxRecDepth 20000 in
theorem k_L_slope_0 {l : Launch} {bs : Nat} {D : va_G} {Da : Nat → ClassId} (htr : l.stackTraces = false) : m_okb l bs D Da RL cL_slope 5 (some .int) rm_L_slope (tableOf hh_L_slope) "slope" bu_L_slope 0 b_L_slope_0 := fun Q X K hK => (ok_aload_n (pc := 0) rfl (m_dec dc_L_slope 0 rfl) (ok_iload_n (pc := 1) rfl (m_dec dc_L_slope 1 rfl) (ok_iload_n (pc := 2) rfl (m_dec dc_L_slope 2 rfl) (ok_iload_n (pc := 3) rfl (m_dec dc_L_slope 3 rfl) (ok_hV (pc := 4) (kk := 9) rfl (by decide) m_cl9 (s_X10_slope htr) (m_site_of st_X10_slope (And.intro (by decide) (by decide)) (And.intro (by decide) (by decide))) mu_1175 (m_dec dc_L_slope 4 rfl) mu_1176 mu_1174 hk_L_slope_4 (List.forall_mem_cons.mpr ⟨(hK 10), List.forall_mem_cons.mpr ⟨(hK 14), fun _ h => absurd h List.not_mem_nil⟩⟩) (hK 7))))))
def b_L_slope_7 (K : m_K) (Q X : m_Po) : m_C := j_go K 18
set_option maxRecDepth 20000 in
theorem k_L_slope_7 {l : Launch} {bs : Nat} {D : va_G} {Da : Nat → ClassId} (htr : l.stackTraces = false) : m_okb l bs D Da RL cL_slope 5 (some .int) rm_L_slope (tableOf hh_L_slope) "slope" bu_L_slope 7 b_L_slope_7 := fun Q X K hK => (ok_go (pc := 7) (m_dec dc_L_slope 5 rfl) rfl (hK 18))
def b_L_slope_10 (K : m_K) (Q X : m_Po) : m_C := m_sto 2 4 (m_con (0, 1) (j_r 0 Q))
set_option maxRecDepth 20000 in
theorem k_L_slope_10 {l : Launch} {bs : Nat} {D : va_G} {Da : Nat → ClassId} (htr : l.stackTraces = false) : m_okb l bs D Da RL cL_slope 5 (some .int) rm_L_slope (tableOf hh_L_slope) "slope" bu_L_slope 10 b_L_slope_10 := fun Q X K hK => (ok_astore (pc := 10) (by decide) (m_dec dc_L_slope 6 rfl) (ok_iconst (pc := 12) (And.intro (by decide) (by decide)) (m_dec dc_L_slope 7 rfl) (ok_iret (pc := 13) (And.intro (by decide) (by decide)) rfl (m_dec dc_L_slope 8 rfl))))
def b_L_slope_14 (K : m_K) (Q X : m_Po) : m_C := m_sto 2 4 (m_con (0, 2) (j_r 0 Q))
set_option maxRecDepth 20000 in
theorem k_L_slope_14 {l : Launch} {bs : Nat} {D : va_G} {Da : Nat → ClassId} (htr : l.stackTraces = false) : m_okb l bs D Da RL cL_slope 5 (some .int) rm_L_slope (tableOf hh_L_slope) "slope" bu_L_slope 14 b_L_slope_14 := fun Q X K hK => (ok_astore (pc := 14) (by decide) (m_dec dc_L_slope 9 rfl) (ok_iconst (pc := 16) (And.intro (by decide) (by decide)) (m_dec dc_L_slope 10 rfl) (ok_iret (pc := 17) (And.intro (by decide) (by decide)) rfl (m_dec dc_L_slope 11 rfl))))
def b_L_slope_18 (K : m_K) (Q X : m_Po) : m_C := m_con (0, 0) (j_r 0 Q)
set_option maxRecDepth 20000 in
theorem k_L_slope_18 {l : Launch} {bs : Nat} {D : va_G} {Da : Nat → ClassId} (htr : l.stackTraces = false) : m_okb l bs D Da RL cL_slope 5 (some .int) rm_L_slope (tableOf hh_L_slope) "slope" bu_L_slope 18 b_L_slope_18 := fun Q X K hK => (ok_iconst (pc := 18) (And.intro (by decide) (by decide)) (m_dec dc_L_slope 12 rfl) (ok_iret (pc := 19) (And.intro (by decide) (by decide)) rfl (m_dec dc_L_slope 13 rfl)))
def cd_L_slope : m_B := m_tab lv_L_slope [(0, b_L_slope_0), (7, b_L_slope_7), (10, b_L_slope_10), (14, b_L_slope_14), (18, b_L_slope_18)]
def o_L_slope : m_O := m_ent cd_L_slope 5
theorem st_L_slope : m_staW yL_slope cL_slope 5 (some .int) hh_L_slope 4 := ⟨mu_1177, mu_1130, ⟨by decide, by decide⟩, by decide +kernel⟩
theorem s_L_slope {l : Launch} {bs : Nat} {D : va_G} {Da : Nat → ClassId} (htr : l.stackTraces = false) : Snd l bs D Da yL_slope (.codeWith yL_slope cL_slope 5 (some .int) hh_L_slope) (some .int) rm_L_slope o_L_slope := m_methodH (hh := hh_L_slope) (bud := bu_L_slope) htr (by decide) (m_tab_cons (k_L_slope_0 htr) (m_tab_cons (k_L_slope_7 htr) (m_tab_cons (k_L_slope_10 htr) (m_tab_cons (k_L_slope_14 htr) (m_tab_cons (k_L_slope_18 htr) (m_tab_nil))))))
/-! ArchYardLaw.whole(LArchYard;I[J)I -/
def dl_L_whole : List (Nat × Instr × Nat) := [(0, .aload_n 2, 1), (1, .iconst 0, 1), (2, .aload_n 0, 1), (3, .iload_n 1, 1), (4, .invokevirtual 57, 3), (7, .i2l, 1), (8, .lastore, 1), (9, .goto 6, 3), (12, .astore_n 3, 1), (13, .iconst 1, 1), (14, .ireturn, 1), (15, .iconst 0, 1), (16, .ireturn, 1)]
theorem dc_L_whole : m_chk cL_whole dl_L_whole = true := by decide +kernel
abbrev hh_L_whole : List (Nat × Nat × Nat × Nat) := [(0, 9, 12, 21)]
def hs_L_whole : List (Int × Nat) := [(1, 12)]
theorem hk_L_whole_4 : m_hok RL 4 (tableOf hh_L_whole) hs_L_whole := ⟨⟨by decide, by decide, rfl, by decide, mu_1137⟩, trivial⟩
abbrev rm_L_whole : Room := { frames := 8, cells := 1, slots := 6, locals := 169 }
abbrev bu_L_whole : Nat → Nat × Nat := fun q => m_bud [(0, 0, 0), (7, 1, 6), (12, 1, 6), (15, 1, 6)] q
def lv_L_whole : Nat → List Nat := fun q => m_liv [(0, [0, 1, 2]), (7, []), (12, []), (15, [])] q
def b_L_whole_0 (K : m_K) (Q X : m_Po) : m_C := m_lod 2 2 (m_con (0, 0) (m_lod 2 0 (m_lod 0 1 (m_hV 9 o_X10_whole 2 (some 0) hs_L_whole K (K 7)))))
set_option maxRecDepth 20000 in
theorem k_L_whole_0 {l : Launch} {bs : Nat} {D : va_G} {Da : Nat → ClassId} (htr : l.stackTraces = false) : m_okb l bs D Da RL cL_whole 4 (some .int) rm_L_whole (tableOf hh_L_whole) "whole" bu_L_whole 0 b_L_whole_0 := fun Q X K hK => (ok_aload_n (pc := 0) rfl (m_dec dc_L_whole 0 rfl) (ok_iconst (pc := 1) (And.intro (by decide) (by decide)) (m_dec dc_L_whole 1 rfl) (ok_aload_n (pc := 2) rfl (m_dec dc_L_whole 2 rfl) (ok_iload_n (pc := 3) rfl (m_dec dc_L_whole 3 rfl) (ok_hV (pc := 4) (kk := 9) rfl (by decide) m_cl9 (s_X10_whole htr) (m_site_of st_X10_whole (And.intro (by decide) (by decide)) (And.intro (by decide) (by decide))) mu_1179 (m_dec dc_L_whole 4 rfl) mu_1180 mu_1178 hk_L_whole_4 (List.forall_mem_cons.mpr ⟨(hK 12), fun _ h => absurd h List.not_mem_nil⟩) (hK 7))))))
def b_L_whole_7 (K : m_K) (Q X : m_Po) : m_C := m_un 0 1 (fun x => x) (m_ast 101 1 (j_go K 15))
set_option maxRecDepth 20000 in
theorem k_L_whole_7 {l : Launch} {bs : Nat} {D : va_G} {Da : Nat → ClassId} (htr : l.stackTraces = false) : m_okb l bs D Da RL cL_whole 4 (some .int) rm_L_whole (tableOf hh_L_whole) "whole" bu_L_whole 7 b_L_whole_7 := fun Q X K hK => (ok_i2l (pc := 7) (m_dec dc_L_whole 5 rfl) (ok_last (pc := 8) (m_dec dc_L_whole 6 rfl) (ok_go (pc := 9) (m_dec dc_L_whole 7 rfl) rfl (hK 15))))
def b_L_whole_12 (K : m_K) (Q X : m_Po) : m_C := m_sto 2 3 (m_con (0, 1) (j_r 0 Q))
set_option maxRecDepth 20000 in
theorem k_L_whole_12 {l : Launch} {bs : Nat} {D : va_G} {Da : Nat → ClassId} (htr : l.stackTraces = false) : m_okb l bs D Da RL cL_whole 4 (some .int) rm_L_whole (tableOf hh_L_whole) "whole" bu_L_whole 12 b_L_whole_12 := fun Q X K hK => (ok_astore_n (pc := 12) rfl (by decide) (m_dec dc_L_whole 8 rfl) (ok_iconst (pc := 13) (And.intro (by decide) (by decide)) (m_dec dc_L_whole 9 rfl) (ok_iret (pc := 14) (And.intro (by decide) (by decide)) rfl (m_dec dc_L_whole 10 rfl))))
def b_L_whole_15 (K : m_K) (Q X : m_Po) : m_C := m_con (0, 0) (j_r 0 Q)
set_option maxRecDepth 20000 in
theorem k_L_whole_15 {l : Launch} {bs : Nat} {D : va_G} {Da : Nat → ClassId} (htr : l.stackTraces = false) : m_okb l bs D Da RL cL_whole 4 (some .int) rm_L_whole (tableOf hh_L_whole) "whole" bu_L_whole 15 b_L_whole_15 := fun Q X K hK => (ok_iconst (pc := 15) (And.intro (by decide) (by decide)) (m_dec dc_L_whole 11 rfl) (ok_iret (pc := 16) (And.intro (by decide) (by decide)) rfl (m_dec dc_L_whole 12 rfl)))
def cd_L_whole : m_B := m_tab lv_L_whole [(0, b_L_whole_0), (7, b_L_whole_7), (12, b_L_whole_12), (15, b_L_whole_15)]
def o_L_whole : m_O := m_ent cd_L_whole 4
theorem st_L_whole : m_staW yL_whole cL_whole 4 (some .int) hh_L_whole 3 := ⟨mu_1181, mu_1130, ⟨by decide, by decide⟩, by decide +kernel⟩
theorem s_L_whole {l : Launch} {bs : Nat} {D : va_G} {Da : Nat → ClassId} (htr : l.stackTraces = false) : Snd l bs D Da yL_whole (.codeWith yL_whole cL_whole 4 (some .int) hh_L_whole) (some .int) rm_L_whole o_L_whole := m_methodH (hh := hh_L_whole) (bud := bu_L_whole) htr (by decide) (m_tab_cons (k_L_whole_0 htr) (m_tab_cons (k_L_whole_7 htr) (m_tab_cons (k_L_whole_12 htr) (m_tab_cons (k_L_whole_15 htr) (m_tab_nil)))))
/-! ArchYardLaw.joint(LArchYard;III[J)I -/
def dl_L_joint : List (Nat × Instr × Nat) := [(0, .aload 4, 2), (2, .iconst 0, 1), (3, .aload_n 0, 1), (4, .iload_n 1, 1), (5, .iload_n 2, 1), (6, .iload_n 3, 1), (7, .invokevirtual 60, 3), (10, .i2l, 1), (11, .lastore, 1), (12, .goto 11, 3), (15, .astore 5, 2), (17, .iconst 1, 1), (18, .ireturn, 1), (19, .astore 5, 2), (21, .iconst 2, 1), (22, .ireturn, 1), (23, .iconst 0, 1), (24, .ireturn, 1)]
theorem dc_L_joint : m_chk cL_joint dl_L_joint = true := by decide +kernel
abbrev hh_L_joint : List (Nat × Nat × Nat × Nat) := [(0, 12, 15, 21), (0, 12, 19, 13)]
def hs_L_joint : List (Int × Nat) := [(1, 15), (2, 19)]
theorem hk_L_joint_7 : m_hok RL 7 (tableOf hh_L_joint) hs_L_joint := ⟨⟨by decide, by decide, rfl, by decide, mu_1137⟩, ⟨⟨by decide, by decide, rfl, by decide, mu_1132⟩, trivial⟩⟩
abbrev rm_L_joint : Room := { frames := 8, cells := 2, slots := 12, locals := 172 }
abbrev bu_L_joint : Nat → Nat × Nat := fun q => m_bud [(0, 0, 0), (10, 2, 12), (15, 2, 12), (19, 2, 12), (23, 2, 12)] q
def lv_L_joint : Nat → List Nat := fun q => m_liv [(0, [0, 1, 2, 3, 4]), (10, []), (15, []), (19, []), (23, [])] q
def b_L_joint_0 (K : m_K) (Q X : m_Po) : m_C := m_lod 2 4 (m_con (0, 0) (m_lod 2 0 (m_lod 0 1 (m_lod 0 2 (m_lod 0 3 (m_hV 9 o_X10_joint 4 (some 0) hs_L_joint K (K 10)))))))
set_option maxRecDepth 20000 in
theorem k_L_joint_0 {l : Launch} {bs : Nat} {D : va_G} {Da : Nat → ClassId} (htr : l.stackTraces = false) : m_okb l bs D Da RL cL_joint 6 (some .int) rm_L_joint (tableOf hh_L_joint) "joint" bu_L_joint 0 b_L_joint_0 := fun Q X K hK => (ok_aload (pc := 0) (m_dec dc_L_joint 0 rfl) (ok_iconst (pc := 2) (And.intro (by decide) (by decide)) (m_dec dc_L_joint 1 rfl) (ok_aload_n (pc := 3) rfl (m_dec dc_L_joint 2 rfl) (ok_iload_n (pc := 4) rfl (m_dec dc_L_joint 3 rfl) (ok_iload_n (pc := 5) rfl (m_dec dc_L_joint 4 rfl) (ok_iload_n (pc := 6) rfl (m_dec dc_L_joint 5 rfl) (ok_hV (pc := 7) (kk := 9) rfl (by decide) m_cl9 (s_X10_joint htr) (m_site_of st_X10_joint (And.intro (by decide) (by decide)) (And.intro (by decide) (by decide))) mu_1183 (m_dec dc_L_joint 6 rfl) mu_1184 mu_1182 hk_L_joint_7 (List.forall_mem_cons.mpr ⟨(hK 15), List.forall_mem_cons.mpr ⟨(hK 19), fun _ h => absurd h List.not_mem_nil⟩⟩) (hK 10))))))))
def b_L_joint_10 (K : m_K) (Q X : m_Po) : m_C := m_un 0 1 (fun x => x) (m_ast 101 1 (j_go K 23))
set_option maxRecDepth 20000 in
theorem k_L_joint_10 {l : Launch} {bs : Nat} {D : va_G} {Da : Nat → ClassId} (htr : l.stackTraces = false) : m_okb l bs D Da RL cL_joint 6 (some .int) rm_L_joint (tableOf hh_L_joint) "joint" bu_L_joint 10 b_L_joint_10 := fun Q X K hK => (ok_i2l (pc := 10) (m_dec dc_L_joint 7 rfl) (ok_last (pc := 11) (m_dec dc_L_joint 8 rfl) (ok_go (pc := 12) (m_dec dc_L_joint 9 rfl) rfl (hK 23))))
def b_L_joint_15 (K : m_K) (Q X : m_Po) : m_C := m_sto 2 5 (m_con (0, 1) (j_r 0 Q))
set_option maxRecDepth 20000 in
theorem k_L_joint_15 {l : Launch} {bs : Nat} {D : va_G} {Da : Nat → ClassId} (htr : l.stackTraces = false) : m_okb l bs D Da RL cL_joint 6 (some .int) rm_L_joint (tableOf hh_L_joint) "joint" bu_L_joint 15 b_L_joint_15 := fun Q X K hK => (ok_astore (pc := 15) (by decide) (m_dec dc_L_joint 10 rfl) (ok_iconst (pc := 17) (And.intro (by decide) (by decide)) (m_dec dc_L_joint 11 rfl) (ok_iret (pc := 18) (And.intro (by decide) (by decide)) rfl (m_dec dc_L_joint 12 rfl))))
def b_L_joint_19 (K : m_K) (Q X : m_Po) : m_C := m_sto 2 5 (m_con (0, 2) (j_r 0 Q))
set_option maxRecDepth 20000 in
theorem k_L_joint_19 {l : Launch} {bs : Nat} {D : va_G} {Da : Nat → ClassId} (htr : l.stackTraces = false) : m_okb l bs D Da RL cL_joint 6 (some .int) rm_L_joint (tableOf hh_L_joint) "joint" bu_L_joint 19 b_L_joint_19 := fun Q X K hK => (ok_astore (pc := 19) (by decide) (m_dec dc_L_joint 13 rfl) (ok_iconst (pc := 21) (And.intro (by decide) (by decide)) (m_dec dc_L_joint 14 rfl) (ok_iret (pc := 22) (And.intro (by decide) (by decide)) rfl (m_dec dc_L_joint 15 rfl))))
def b_L_joint_23 (K : m_K) (Q X : m_Po) : m_C := m_con (0, 0) (j_r 0 Q)
set_option maxRecDepth 20000 in
theorem k_L_joint_23 {l : Launch} {bs : Nat} {D : va_G} {Da : Nat → ClassId} (htr : l.stackTraces = false) : m_okb l bs D Da RL cL_joint 6 (some .int) rm_L_joint (tableOf hh_L_joint) "joint" bu_L_joint 23 b_L_joint_23 := fun Q X K hK => (ok_iconst (pc := 23) (And.intro (by decide) (by decide)) (m_dec dc_L_joint 16 rfl) (ok_iret (pc := 24) (And.intro (by decide) (by decide)) rfl (m_dec dc_L_joint 17 rfl)))
def cd_L_joint : m_B := m_tab lv_L_joint [(0, b_L_joint_0), (10, b_L_joint_10), (15, b_L_joint_15), (19, b_L_joint_19), (23, b_L_joint_23)]
def o_L_joint : m_O := m_ent cd_L_joint 6
theorem st_L_joint : m_staW yL_joint cL_joint 6 (some .int) hh_L_joint 5 := ⟨mu_1185, mu_1130, ⟨by decide, by decide⟩, by decide +kernel⟩
theorem s_L_joint {l : Launch} {bs : Nat} {D : va_G} {Da : Nat → ClassId} (htr : l.stackTraces = false) : Snd l bs D Da yL_joint (.codeWith yL_joint cL_joint 6 (some .int) hh_L_joint) (some .int) rm_L_joint o_L_joint := m_methodH (hh := hh_L_joint) (bud := bu_L_joint) htr (by decide) (m_tab_cons (k_L_joint_0 htr) (m_tab_cons (k_L_joint_10 htr) (m_tab_cons (k_L_joint_15 htr) (m_tab_cons (k_L_joint_19 htr) (m_tab_cons (k_L_joint_23 htr) (m_tab_nil))))))
/-! ArchYardLaw.line(LArchYard;IIIII[J)I -/
def dl_L_line : List (Nat × Instr × Nat) := [(0, .aload 6, 2), (2, .iconst 0, 1), (3, .aload_n 0, 1), (4, .iload_n 1, 1), (5, .iload_n 2, 1), (6, .iload_n 3, 1), (7, .iload 4, 2), (9, .iload 5, 2), (11, .invokevirtual 63, 3), (14, .i2l, 1), (15, .lastore, 1), (16, .goto 15, 3), (19, .astore 7, 2), (21, .iconst 1, 1), (22, .ireturn, 1), (23, .astore 7, 2), (25, .iconst 2, 1), (26, .ireturn, 1), (27, .astore 7, 2), (29, .iconst 3, 1), (30, .ireturn, 1), (31, .iconst 0, 1), (32, .ireturn, 1)]
theorem dc_L_line : m_chk cL_line dl_L_line = true := by decide +kernel
abbrev hh_L_line : List (Nat × Nat × Nat × Nat) := [(0, 16, 19, 21), (0, 16, 23, 13), (0, 16, 27, 15)]
def hs_L_line : List (Int × Nat) := [(1, 19), (2, 23), (3, 27)]
theorem hk_L_line_11 : m_hok RL 11 (tableOf hh_L_line) hs_L_line := ⟨⟨by decide, by decide, rfl, by decide, mu_1137⟩, ⟨⟨by decide, by decide, rfl, by decide, mu_1132⟩, ⟨⟨by decide, by decide, rfl, by decide, mu_1131⟩, trivial⟩⟩⟩
abbrev rm_L_line : Room := { frames := 8, cells := 3, slots := 18, locals := 194 }
abbrev bu_L_line : Nat → Nat × Nat := fun q => m_bud [(0, 0, 0), (14, 3, 18), (19, 3, 18), (23, 3, 18), (27, 3, 18), (31, 3, 18)] q
def lv_L_line : Nat → List Nat := fun q => m_liv [(0, [0, 1, 2, 3, 4, 5, 6]), (14, []), (19, []), (23, []), (27, []), (31, [])] q
def b_L_line_0 (K : m_K) (Q X : m_Po) : m_C := m_lod 2 6 (m_con (0, 0) (m_lod 2 0 (m_lod 0 1 (m_lod 0 2 (m_lod 0 3 (m_lod 0 4 (m_lod 0 5 (m_hV 9 o_X10_line 6 (some 0) hs_L_line K (K 14)))))))))
set_option maxRecDepth 20000 in
theorem k_L_line_0 {l : Launch} {bs : Nat} {D : va_G} {Da : Nat → ClassId} (htr : l.stackTraces = false) : m_okb l bs D Da RL cL_line 8 (some .int) rm_L_line (tableOf hh_L_line) "line" bu_L_line 0 b_L_line_0 := fun Q X K hK => (ok_aload (pc := 0) (m_dec dc_L_line 0 rfl) (ok_iconst (pc := 2) (And.intro (by decide) (by decide)) (m_dec dc_L_line 1 rfl) (ok_aload_n (pc := 3) rfl (m_dec dc_L_line 2 rfl) (ok_iload_n (pc := 4) rfl (m_dec dc_L_line 3 rfl) (ok_iload_n (pc := 5) rfl (m_dec dc_L_line 4 rfl) (ok_iload_n (pc := 6) rfl (m_dec dc_L_line 5 rfl) (ok_iload (pc := 7) (m_dec dc_L_line 6 rfl) (ok_iload (pc := 9) (m_dec dc_L_line 7 rfl) (ok_hV (pc := 11) (kk := 9) rfl (by decide) m_cl9 (s_X10_line htr) (m_site_of st_X10_line (And.intro (by decide) (by decide)) (And.intro (by decide) (by decide))) mu_1187 (m_dec dc_L_line 8 rfl) mu_1188 mu_1186 hk_L_line_11 (List.forall_mem_cons.mpr ⟨(hK 19), List.forall_mem_cons.mpr ⟨(hK 23), List.forall_mem_cons.mpr ⟨(hK 27), fun _ h => absurd h List.not_mem_nil⟩⟩⟩) (hK 14))))))))))
def b_L_line_14 (K : m_K) (Q X : m_Po) : m_C := m_un 0 1 (fun x => x) (m_ast 101 1 (j_go K 31))
set_option maxRecDepth 20000 in
theorem k_L_line_14 {l : Launch} {bs : Nat} {D : va_G} {Da : Nat → ClassId} (htr : l.stackTraces = false) : m_okb l bs D Da RL cL_line 8 (some .int) rm_L_line (tableOf hh_L_line) "line" bu_L_line 14 b_L_line_14 := fun Q X K hK => (ok_i2l (pc := 14) (m_dec dc_L_line 9 rfl) (ok_last (pc := 15) (m_dec dc_L_line 10 rfl) (ok_go (pc := 16) (m_dec dc_L_line 11 rfl) rfl (hK 31))))
def b_L_line_19 (K : m_K) (Q X : m_Po) : m_C := m_sto 2 7 (m_con (0, 1) (j_r 0 Q))
set_option maxRecDepth 20000 in
theorem k_L_line_19 {l : Launch} {bs : Nat} {D : va_G} {Da : Nat → ClassId} (htr : l.stackTraces = false) : m_okb l bs D Da RL cL_line 8 (some .int) rm_L_line (tableOf hh_L_line) "line" bu_L_line 19 b_L_line_19 := fun Q X K hK => (ok_astore (pc := 19) (by decide) (m_dec dc_L_line 12 rfl) (ok_iconst (pc := 21) (And.intro (by decide) (by decide)) (m_dec dc_L_line 13 rfl) (ok_iret (pc := 22) (And.intro (by decide) (by decide)) rfl (m_dec dc_L_line 14 rfl))))
def b_L_line_23 (K : m_K) (Q X : m_Po) : m_C := m_sto 2 7 (m_con (0, 2) (j_r 0 Q))
set_option maxRecDepth 20000 in
theorem k_L_line_23 {l : Launch} {bs : Nat} {D : va_G} {Da : Nat → ClassId} (htr : l.stackTraces = false) : m_okb l bs D Da RL cL_line 8 (some .int) rm_L_line (tableOf hh_L_line) "line" bu_L_line 23 b_L_line_23 := fun Q X K hK => (ok_astore (pc := 23) (by decide) (m_dec dc_L_line 15 rfl) (ok_iconst (pc := 25) (And.intro (by decide) (by decide)) (m_dec dc_L_line 16 rfl) (ok_iret (pc := 26) (And.intro (by decide) (by decide)) rfl (m_dec dc_L_line 17 rfl))))
def b_L_line_27 (K : m_K) (Q X : m_Po) : m_C := m_sto 2 7 (m_con (0, 3) (j_r 0 Q))
set_option maxRecDepth 20000 in
theorem k_L_line_27 {l : Launch} {bs : Nat} {D : va_G} {Da : Nat → ClassId} (htr : l.stackTraces = false) : m_okb l bs D Da RL cL_line 8 (some .int) rm_L_line (tableOf hh_L_line) "line" bu_L_line 27 b_L_line_27 := fun Q X K hK => (ok_astore (pc := 27) (by decide) (m_dec dc_L_line 18 rfl) (ok_iconst (pc := 29) (And.intro (by decide) (by decide)) (m_dec dc_L_line 19 rfl) (ok_iret (pc := 30) (And.intro (by decide) (by decide)) rfl (m_dec dc_L_line 20 rfl))))
def b_L_line_31 (K : m_K) (Q X : m_Po) : m_C := m_con (0, 0) (j_r 0 Q)
set_option maxRecDepth 20000 in
theorem k_L_line_31 {l : Launch} {bs : Nat} {D : va_G} {Da : Nat → ClassId} (htr : l.stackTraces = false) : m_okb l bs D Da RL cL_line 8 (some .int) rm_L_line (tableOf hh_L_line) "line" bu_L_line 31 b_L_line_31 := fun Q X K hK => (ok_iconst (pc := 31) (And.intro (by decide) (by decide)) (m_dec dc_L_line 21 rfl) (ok_iret (pc := 32) (And.intro (by decide) (by decide)) rfl (m_dec dc_L_line 22 rfl)))
def cd_L_line : m_B := m_tab lv_L_line [(0, b_L_line_0), (14, b_L_line_14), (19, b_L_line_19), (23, b_L_line_23), (27, b_L_line_27), (31, b_L_line_31)]
def o_L_line : m_O := m_ent cd_L_line 8
theorem st_L_line : m_staW yL_line cL_line 8 (some .int) hh_L_line 7 := ⟨mu_1189, mu_1130, ⟨by decide, by decide⟩, by decide +kernel⟩
theorem s_L_line {l : Launch} {bs : Nat} {D : va_G} {Da : Nat → ClassId} (htr : l.stackTraces = false) : Snd l bs D Da yL_line (.codeWith yL_line cL_line 8 (some .int) hh_L_line) (some .int) rm_L_line o_L_line := m_methodH (hh := hh_L_line) (bud := bu_L_line) htr (by decide) (m_tab_cons (k_L_line_0 htr) (m_tab_cons (k_L_line_14 htr) (m_tab_cons (k_L_line_19 htr) (m_tab_cons (k_L_line_23 htr) (m_tab_cons (k_L_line_27 htr) (m_tab_cons (k_L_line_31 htr) (m_tab_nil)))))))
/-! ArchYardLaw.judge(LArchYard;II[J)I -/
def dl_L_judge : List (Nat × Instr × Nat) := [(0, .aload_n 3, 1), (1, .iconst 0, 1), (2, .aload_n 0, 1), (3, .iload_n 1, 1), (4, .iload_n 2, 1), (5, .invokevirtual 67, 3), (8, .i2l, 1), (9, .lastore, 1), (10, .goto 15, 3), (13, .astore 4, 2), (15, .iconst 1, 1), (16, .ireturn, 1), (17, .astore 4, 2), (19, .iconst 2, 1), (20, .ireturn, 1), (21, .astore 4, 2), (23, .iconst 3, 1), (24, .ireturn, 1), (25, .iconst 0, 1), (26, .ireturn, 1)]
theorem dc_L_judge : m_chk cL_judge dl_L_judge = true := by decide +kernel
abbrev hh_L_judge : List (Nat × Nat × Nat × Nat) := [(0, 10, 13, 21), (0, 10, 17, 13), (0, 10, 21, 15)]
def hs_L_judge : List (Int × Nat) := [(1, 13), (2, 17), (3, 21)]
theorem hk_L_judge_5 : m_hok RL 5 (tableOf hh_L_judge) hs_L_judge := ⟨⟨by decide, by decide, rfl, by decide, mu_1137⟩, ⟨⟨by decide, by decide, rfl, by decide, mu_1132⟩, ⟨⟨by decide, by decide, rfl, by decide, mu_1131⟩, trivial⟩⟩⟩
abbrev rm_L_judge : Room := { frames := 8, cells := 3, slots := 18, locals := 207 }
abbrev bu_L_judge : Nat → Nat × Nat := fun q => m_bud [(0, 0, 0), (8, 3, 18), (13, 3, 18), (17, 3, 18), (21, 3, 18), (25, 3, 18)] q
def lv_L_judge : Nat → List Nat := fun q => m_liv [(0, [0, 1, 2, 3]), (8, []), (13, []), (17, []), (21, []), (25, [])] q
def b_L_judge_0 (K : m_K) (Q X : m_Po) : m_C := m_lod 2 3 (m_con (0, 0) (m_lod 2 0 (m_lod 0 1 (m_lod 0 2 (m_hV 9 o_X10_judge 3 (some 0) hs_L_judge K (K 8))))))
set_option maxRecDepth 20000 in
theorem k_L_judge_0 {l : Launch} {bs : Nat} {D : va_G} {Da : Nat → ClassId} (htr : l.stackTraces = false) : m_okb l bs D Da RL cL_judge 5 (some .int) rm_L_judge (tableOf hh_L_judge) "judge" bu_L_judge 0 b_L_judge_0 := fun Q X K hK => (ok_aload_n (pc := 0) rfl (m_dec dc_L_judge 0 rfl) (ok_iconst (pc := 1) (And.intro (by decide) (by decide)) (m_dec dc_L_judge 1 rfl) (ok_aload_n (pc := 2) rfl (m_dec dc_L_judge 2 rfl) (ok_iload_n (pc := 3) rfl (m_dec dc_L_judge 3 rfl) (ok_iload_n (pc := 4) rfl (m_dec dc_L_judge 4 rfl) (ok_hV (pc := 5) (kk := 9) rfl (by decide) m_cl9 (s_X10_judge htr) (m_site_of st_X10_judge (And.intro (by decide) (by decide)) (And.intro (by decide) (by decide))) mu_1191 (m_dec dc_L_judge 5 rfl) mu_1192 mu_1190 hk_L_judge_5 (List.forall_mem_cons.mpr ⟨(hK 13), List.forall_mem_cons.mpr ⟨(hK 17), List.forall_mem_cons.mpr ⟨(hK 21), fun _ h => absurd h List.not_mem_nil⟩⟩⟩) (hK 8)))))))
def b_L_judge_8 (K : m_K) (Q X : m_Po) : m_C := m_un 0 1 (fun x => x) (m_ast 101 1 (j_go K 25))
set_option maxRecDepth 20000 in
theorem k_L_judge_8 {l : Launch} {bs : Nat} {D : va_G} {Da : Nat → ClassId} (htr : l.stackTraces = false) : m_okb l bs D Da RL cL_judge 5 (some .int) rm_L_judge (tableOf hh_L_judge) "judge" bu_L_judge 8 b_L_judge_8 := fun Q X K hK => (ok_i2l (pc := 8) (m_dec dc_L_judge 6 rfl) (ok_last (pc := 9) (m_dec dc_L_judge 7 rfl) (ok_go (pc := 10) (m_dec dc_L_judge 8 rfl) rfl (hK 25))))
def b_L_judge_13 (K : m_K) (Q X : m_Po) : m_C := m_sto 2 4 (m_con (0, 1) (j_r 0 Q))
set_option maxRecDepth 20000 in
theorem k_L_judge_13 {l : Launch} {bs : Nat} {D : va_G} {Da : Nat → ClassId} (htr : l.stackTraces = false) : m_okb l bs D Da RL cL_judge 5 (some .int) rm_L_judge (tableOf hh_L_judge) "judge" bu_L_judge 13 b_L_judge_13 := fun Q X K hK => (ok_astore (pc := 13) (by decide) (m_dec dc_L_judge 9 rfl) (ok_iconst (pc := 15) (And.intro (by decide) (by decide)) (m_dec dc_L_judge 10 rfl) (ok_iret (pc := 16) (And.intro (by decide) (by decide)) rfl (m_dec dc_L_judge 11 rfl))))
def b_L_judge_17 (K : m_K) (Q X : m_Po) : m_C := m_sto 2 4 (m_con (0, 2) (j_r 0 Q))
set_option maxRecDepth 20000 in
theorem k_L_judge_17 {l : Launch} {bs : Nat} {D : va_G} {Da : Nat → ClassId} (htr : l.stackTraces = false) : m_okb l bs D Da RL cL_judge 5 (some .int) rm_L_judge (tableOf hh_L_judge) "judge" bu_L_judge 17 b_L_judge_17 := fun Q X K hK => (ok_astore (pc := 17) (by decide) (m_dec dc_L_judge 12 rfl) (ok_iconst (pc := 19) (And.intro (by decide) (by decide)) (m_dec dc_L_judge 13 rfl) (ok_iret (pc := 20) (And.intro (by decide) (by decide)) rfl (m_dec dc_L_judge 14 rfl))))
def b_L_judge_21 (K : m_K) (Q X : m_Po) : m_C := m_sto 2 4 (m_con (0, 3) (j_r 0 Q))
set_option maxRecDepth 20000 in
theorem k_L_judge_21 {l : Launch} {bs : Nat} {D : va_G} {Da : Nat → ClassId} (htr : l.stackTraces = false) : m_okb l bs D Da RL cL_judge 5 (some .int) rm_L_judge (tableOf hh_L_judge) "judge" bu_L_judge 21 b_L_judge_21 := fun Q X K hK => (ok_astore (pc := 21) (by decide) (m_dec dc_L_judge 15 rfl) (ok_iconst (pc := 23) (And.intro (by decide) (by decide)) (m_dec dc_L_judge 16 rfl) (ok_iret (pc := 24) (And.intro (by decide) (by decide)) rfl (m_dec dc_L_judge 17 rfl))))
def b_L_judge_25 (K : m_K) (Q X : m_Po) : m_C := m_con (0, 0) (j_r 0 Q)
set_option maxRecDepth 20000 in
theorem k_L_judge_25 {l : Launch} {bs : Nat} {D : va_G} {Da : Nat → ClassId} (htr : l.stackTraces = false) : m_okb l bs D Da RL cL_judge 5 (some .int) rm_L_judge (tableOf hh_L_judge) "judge" bu_L_judge 25 b_L_judge_25 := fun Q X K hK => (ok_iconst (pc := 25) (And.intro (by decide) (by decide)) (m_dec dc_L_judge 18 rfl) (ok_iret (pc := 26) (And.intro (by decide) (by decide)) rfl (m_dec dc_L_judge 19 rfl)))
def cd_L_judge : m_B := m_tab lv_L_judge [(0, b_L_judge_0), (8, b_L_judge_8), (13, b_L_judge_13), (17, b_L_judge_17), (21, b_L_judge_21), (25, b_L_judge_25)]
def o_L_judge : m_O := m_ent cd_L_judge 5
theorem st_L_judge : m_staW yL_judge cL_judge 5 (some .int) hh_L_judge 4 := ⟨mu_1193, mu_1130, ⟨by decide, by decide⟩, by decide +kernel⟩
theorem s_L_judge {l : Launch} {bs : Nat} {D : va_G} {Da : Nat → ClassId} (htr : l.stackTraces = false) : Snd l bs D Da yL_judge (.codeWith yL_judge cL_judge 5 (some .int) hh_L_judge) (some .int) rm_L_judge o_L_judge := m_methodH (hh := hh_L_judge) (bud := bu_L_judge) htr (by decide) (m_tab_cons (k_L_judge_0 htr) (m_tab_cons (k_L_judge_8 htr) (m_tab_cons (k_L_judge_13 htr) (m_tab_cons (k_L_judge_17 htr) (m_tab_cons (k_L_judge_21 htr) (m_tab_cons (k_L_judge_25 htr) (m_tab_nil)))))))
/-! ArchYardLaw.number(LArchYard;I[J)I -/
def dl_L_number : List (Nat × Instr × Nat) := [(0, .aload_n 2, 1), (1, .iconst 0, 1), (2, .aload_n 0, 1), (3, .iload_n 1, 1), (4, .invokevirtual 70, 3), (7, .i2l, 1), (8, .lastore, 1), (9, .goto 9, 3), (12, .astore_n 3, 1), (13, .iconst 1, 1), (14, .ireturn, 1), (15, .astore_n 3, 1), (16, .iconst 2, 1), (17, .ireturn, 1), (18, .iconst 0, 1), (19, .ireturn, 1)]
theorem dc_L_number : m_chk cL_number dl_L_number = true := by decide +kernel
abbrev hh_L_number : List (Nat × Nat × Nat × Nat) := [(0, 9, 12, 15), (0, 9, 15, 13)]
def hs_L_number : List (Int × Nat) := [(3, 12), (2, 15)]
theorem hk_L_number_4 : m_hok RL 4 (tableOf hh_L_number) hs_L_number := ⟨⟨by decide, by decide, rfl, by decide, mu_1131⟩, ⟨⟨by decide, by decide, rfl, by decide, mu_1132⟩, trivial⟩⟩
abbrev rm_L_number : Room := { frames := 7, cells := 1, slots := 6, locals := 149 }
abbrev bu_L_number : Nat → Nat × Nat := fun q => m_bud [(0, 0, 0), (7, 1, 6), (12, 1, 6), (15, 1, 6), (18, 1, 6)] q
def lv_L_number : Nat → List Nat := fun q => m_liv [(0, [0, 1, 2]), (7, []), (12, []), (15, []), (18, [])] q
def b_L_number_0 (K : m_K) (Q X : m_Po) : m_C := m_lod 2 2 (m_con (0, 0) (m_lod 2 0 (m_lod 0 1 (m_hV 9 o_X10_number 2 (some 0) hs_L_number K (K 7)))))
set_option maxRecDepth 20000 in
theorem k_L_number_0 {l : Launch} {bs : Nat} {D : va_G} {Da : Nat → ClassId} (htr : l.stackTraces = false) : m_okb l bs D Da RL cL_number 4 (some .int) rm_L_number (tableOf hh_L_number) "number" bu_L_number 0 b_L_number_0 := fun Q X K hK => (ok_aload_n (pc := 0) rfl (m_dec dc_L_number 0 rfl) (ok_iconst (pc := 1) (And.intro (by decide) (by decide)) (m_dec dc_L_number 1 rfl) (ok_aload_n (pc := 2) rfl (m_dec dc_L_number 2 rfl) (ok_iload_n (pc := 3) rfl (m_dec dc_L_number 3 rfl) (ok_hV (pc := 4) (kk := 9) rfl (by decide) m_cl9 (s_X10_number htr) (m_site_of st_X10_number (And.intro (by decide) (by decide)) (And.intro (by decide) (by decide))) mu_1195 (m_dec dc_L_number 4 rfl) mu_1196 mu_1194 hk_L_number_4 (List.forall_mem_cons.mpr ⟨(hK 12), List.forall_mem_cons.mpr ⟨(hK 15), fun _ h => absurd h List.not_mem_nil⟩⟩) (hK 7))))))
def b_L_number_7 (K : m_K) (Q X : m_Po) : m_C := m_un 0 1 (fun x => x) (m_ast 101 1 (j_go K 18))
set_option maxRecDepth 20000 in
theorem k_L_number_7 {l : Launch} {bs : Nat} {D : va_G} {Da : Nat → ClassId} (htr : l.stackTraces = false) : m_okb l bs D Da RL cL_number 4 (some .int) rm_L_number (tableOf hh_L_number) "number" bu_L_number 7 b_L_number_7 := fun Q X K hK => (ok_i2l (pc := 7) (m_dec dc_L_number 5 rfl) (ok_last (pc := 8) (m_dec dc_L_number 6 rfl) (ok_go (pc := 9) (m_dec dc_L_number 7 rfl) rfl (hK 18))))
def b_L_number_12 (K : m_K) (Q X : m_Po) : m_C := m_sto 2 3 (m_con (0, 1) (j_r 0 Q))
set_option maxRecDepth 20000 in
theorem k_L_number_12 {l : Launch} {bs : Nat} {D : va_G} {Da : Nat → ClassId} (htr : l.stackTraces = false) : m_okb l bs D Da RL cL_number 4 (some .int) rm_L_number (tableOf hh_L_number) "number" bu_L_number 12 b_L_number_12 := fun Q X K hK => (ok_astore_n (pc := 12) rfl (by decide) (m_dec dc_L_number 8 rfl) (ok_iconst (pc := 13) (And.intro (by decide) (by decide)) (m_dec dc_L_number 9 rfl) (ok_iret (pc := 14) (And.intro (by decide) (by decide)) rfl (m_dec dc_L_number 10 rfl))))
def b_L_number_15 (K : m_K) (Q X : m_Po) : m_C := m_sto 2 3 (m_con (0, 2) (j_r 0 Q))
set_option maxRecDepth 20000 in
theorem k_L_number_15 {l : Launch} {bs : Nat} {D : va_G} {Da : Nat → ClassId} (htr : l.stackTraces = false) : m_okb l bs D Da RL cL_number 4 (some .int) rm_L_number (tableOf hh_L_number) "number" bu_L_number 15 b_L_number_15 := fun Q X K hK => (ok_astore_n (pc := 15) rfl (by decide) (m_dec dc_L_number 11 rfl) (ok_iconst (pc := 16) (And.intro (by decide) (by decide)) (m_dec dc_L_number 12 rfl) (ok_iret (pc := 17) (And.intro (by decide) (by decide)) rfl (m_dec dc_L_number 13 rfl))))
def b_L_number_18 (K : m_K) (Q X : m_Po) : m_C := m_con (0, 0) (j_r 0 Q)
set_option maxRecDepth 20000 in
theorem k_L_number_18 {l : Launch} {bs : Nat} {D : va_G} {Da : Nat → ClassId} (htr : l.stackTraces = false) : m_okb l bs D Da RL cL_number 4 (some .int) rm_L_number (tableOf hh_L_number) "number" bu_L_number 18 b_L_number_18 := fun Q X K hK => (ok_iconst (pc := 18) (And.intro (by decide) (by decide)) (m_dec dc_L_number 14 rfl) (ok_iret (pc := 19) (And.intro (by decide) (by decide)) rfl (m_dec dc_L_number 15 rfl)))
def cd_L_number : m_B := m_tab lv_L_number [(0, b_L_number_0), (7, b_L_number_7), (12, b_L_number_12), (15, b_L_number_15), (18, b_L_number_18)]
def o_L_number : m_O := m_ent cd_L_number 4
theorem st_L_number : m_staW yL_number cL_number 4 (some .int) hh_L_number 3 := ⟨mu_1197, mu_1130, ⟨by decide, by decide⟩, by decide +kernel⟩
theorem s_L_number {l : Launch} {bs : Nat} {D : va_G} {Da : Nat → ClassId} (htr : l.stackTraces = false) : Snd l bs D Da yL_number (.codeWith yL_number cL_number 4 (some .int) hh_L_number) (some .int) rm_L_number o_L_number := m_methodH (hh := hh_L_number) (bud := bu_L_number) htr (by decide) (m_tab_cons (k_L_number_0 htr) (m_tab_cons (k_L_number_7 htr) (m_tab_cons (k_L_number_12 htr) (m_tab_cons (k_L_number_15 htr) (m_tab_cons (k_L_number_18 htr) (m_tab_nil))))))
/-! ArchYardLaw.room(LArchYard;I[J)I -/
def dl_L_room : List (Nat × Instr × Nat) := [(0, .aload_n 2, 1), (1, .iconst 0, 1), (2, .aload_n 0, 1), (3, .iload_n 1, 1), (4, .invokevirtual 73, 3), (7, .i2l, 1), (8, .lastore, 1), (9, .goto 9, 3), (12, .astore_n 3, 1), (13, .iconst 1, 1), (14, .ireturn, 1), (15, .astore_n 3, 1), (16, .iconst 2, 1), (17, .ireturn, 1), (18, .iconst 0, 1), (19, .ireturn, 1)]
theorem dc_L_room : m_chk cL_room dl_L_room = true := by decide +kernel
abbrev hh_L_room : List (Nat × Nat × Nat × Nat) := [(0, 9, 12, 21), (0, 9, 15, 15)]
def hs_L_room : List (Int × Nat) := [(1, 12), (3, 15)]
theorem hk_L_room_4 : m_hok RL 4 (tableOf hh_L_room) hs_L_room := ⟨⟨by decide, by decide, rfl, by decide, mu_1137⟩, ⟨⟨by decide, by decide, rfl, by decide, mu_1131⟩, trivial⟩⟩
abbrev rm_L_room : Room := { frames := 8, cells := 2, slots := 12, locals := 192 }
abbrev bu_L_room : Nat → Nat × Nat := fun q => m_bud [(0, 0, 0), (7, 2, 12), (12, 2, 12), (15, 2, 12), (18, 2, 12)] q
def lv_L_room : Nat → List Nat := fun q => m_liv [(0, [0, 1, 2]), (7, []), (12, []), (15, []), (18, [])] q
def b_L_room_0 (K : m_K) (Q X : m_Po) : m_C := m_lod 2 2 (m_con (0, 0) (m_lod 2 0 (m_lod 0 1 (m_hV 9 o_X10_room 2 (some 0) hs_L_room K (K 7)))))
set_option maxRecDepth 20000 in
theorem k_L_room_0 {l : Launch} {bs : Nat} {D : va_G} {Da : Nat → ClassId} (htr : l.stackTraces = false) : m_okb l bs D Da RL cL_room 4 (some .int) rm_L_room (tableOf hh_L_room) "room" bu_L_room 0 b_L_room_0 := fun Q X K hK => (ok_aload_n (pc := 0) rfl (m_dec dc_L_room 0 rfl) (ok_iconst (pc := 1) (And.intro (by decide) (by decide)) (m_dec dc_L_room 1 rfl) (ok_aload_n (pc := 2) rfl (m_dec dc_L_room 2 rfl) (ok_iload_n (pc := 3) rfl (m_dec dc_L_room 3 rfl) (ok_hV (pc := 4) (kk := 9) rfl (by decide) m_cl9 (s_X10_room htr) (m_site_of st_X10_room (And.intro (by decide) (by decide)) (And.intro (by decide) (by decide))) mu_1199 (m_dec dc_L_room 4 rfl) mu_1200 mu_1198 hk_L_room_4 (List.forall_mem_cons.mpr ⟨(hK 12), List.forall_mem_cons.mpr ⟨(hK 15), fun _ h => absurd h List.not_mem_nil⟩⟩) (hK 7))))))
def b_L_room_7 (K : m_K) (Q X : m_Po) : m_C := m_un 0 1 (fun x => x) (m_ast 101 1 (j_go K 18))
set_option maxRecDepth 20000 in
theorem k_L_room_7 {l : Launch} {bs : Nat} {D : va_G} {Da : Nat → ClassId} (htr : l.stackTraces = false) : m_okb l bs D Da RL cL_room 4 (some .int) rm_L_room (tableOf hh_L_room) "room" bu_L_room 7 b_L_room_7 := fun Q X K hK => (ok_i2l (pc := 7) (m_dec dc_L_room 5 rfl) (ok_last (pc := 8) (m_dec dc_L_room 6 rfl) (ok_go (pc := 9) (m_dec dc_L_room 7 rfl) rfl (hK 18))))
def b_L_room_12 (K : m_K) (Q X : m_Po) : m_C := m_sto 2 3 (m_con (0, 1) (j_r 0 Q))
set_option maxRecDepth 20000 in
theorem k_L_room_12 {l : Launch} {bs : Nat} {D : va_G} {Da : Nat → ClassId} (htr : l.stackTraces = false) : m_okb l bs D Da RL cL_room 4 (some .int) rm_L_room (tableOf hh_L_room) "room" bu_L_room 12 b_L_room_12 := fun Q X K hK => (ok_astore_n (pc := 12) rfl (by decide) (m_dec dc_L_room 8 rfl) (ok_iconst (pc := 13) (And.intro (by decide) (by decide)) (m_dec dc_L_room 9 rfl) (ok_iret (pc := 14) (And.intro (by decide) (by decide)) rfl (m_dec dc_L_room 10 rfl))))
def b_L_room_15 (K : m_K) (Q X : m_Po) : m_C := m_sto 2 3 (m_con (0, 2) (j_r 0 Q))
set_option maxRecDepth 20000 in
theorem k_L_room_15 {l : Launch} {bs : Nat} {D : va_G} {Da : Nat → ClassId} (htr : l.stackTraces = false) : m_okb l bs D Da RL cL_room 4 (some .int) rm_L_room (tableOf hh_L_room) "room" bu_L_room 15 b_L_room_15 := fun Q X K hK => (ok_astore_n (pc := 15) rfl (by decide) (m_dec dc_L_room 11 rfl) (ok_iconst (pc := 16) (And.intro (by decide) (by decide)) (m_dec dc_L_room 12 rfl) (ok_iret (pc := 17) (And.intro (by decide) (by decide)) rfl (m_dec dc_L_room 13 rfl))))
def b_L_room_18 (K : m_K) (Q X : m_Po) : m_C := m_con (0, 0) (j_r 0 Q)
set_option maxRecDepth 20000 in
theorem k_L_room_18 {l : Launch} {bs : Nat} {D : va_G} {Da : Nat → ClassId} (htr : l.stackTraces = false) : m_okb l bs D Da RL cL_room 4 (some .int) rm_L_room (tableOf hh_L_room) "room" bu_L_room 18 b_L_room_18 := fun Q X K hK => (ok_iconst (pc := 18) (And.intro (by decide) (by decide)) (m_dec dc_L_room 14 rfl) (ok_iret (pc := 19) (And.intro (by decide) (by decide)) rfl (m_dec dc_L_room 15 rfl)))
def cd_L_room : m_B := m_tab lv_L_room [(0, b_L_room_0), (7, b_L_room_7), (12, b_L_room_12), (15, b_L_room_15), (18, b_L_room_18)]
def o_L_room : m_O := m_ent cd_L_room 4
theorem st_L_room : m_staW yL_room cL_room 4 (some .int) hh_L_room 3 := ⟨mu_1201, mu_1130, ⟨by decide, by decide⟩, by decide +kernel⟩
theorem s_L_room {l : Launch} {bs : Nat} {D : va_G} {Da : Nat → ClassId} (htr : l.stackTraces = false) : Snd l bs D Da yL_room (.codeWith yL_room cL_room 4 (some .int) hh_L_room) (some .int) rm_L_room o_L_room := m_methodH (hh := hh_L_room) (bud := bu_L_room) htr (by decide) (m_tab_cons (k_L_room_0 htr) (m_tab_cons (k_L_room_7 htr) (m_tab_cons (k_L_room_12 htr) (m_tab_cons (k_L_room_15 htr) (m_tab_cons (k_L_room_18 htr) (m_tab_nil))))))
/-! ArchYardLaw.strike(LArchYard;III[J)I -/
def dl_L_strike : List (Nat × Instr × Nat) := [(0, .aload 4, 2), (2, .iconst 0, 1), (3, .aload_n 0, 1), (4, .iload_n 1, 1), (5, .iload_n 2, 1), (6, .iload_n 3, 1), (7, .invokevirtual 76, 3), (10, .ifCond .eq 7, 3), (13, .lconst 1, 1), (14, .goto 4, 3), (17, .lconst 0, 1), (18, .lastore, 1), (19, .goto 15, 3), (22, .astore 5, 2), (24, .iconst 1, 1), (25, .ireturn, 1), (26, .astore 5, 2), (28, .iconst 2, 1), (29, .ireturn, 1), (30, .astore 5, 2), (32, .iconst 3, 1), (33, .ireturn, 1), (34, .iconst 0, 1), (35, .ireturn, 1)]
theorem dc_L_strike : m_chk cL_strike dl_L_strike = true := by decide +kernel
abbrev hh_L_strike : List (Nat × Nat × Nat × Nat) := [(0, 19, 22, 21), (0, 19, 26, 13), (0, 19, 30, 15)]
def hs_L_strike : List (Int × Nat) := [(1, 22), (2, 26), (3, 30)]
theorem hk_L_strike_7 : m_hok RL 7 (tableOf hh_L_strike) hs_L_strike := ⟨⟨by decide, by decide, rfl, by decide, mu_1137⟩, ⟨⟨by decide, by decide, rfl, by decide, mu_1132⟩, ⟨⟨by decide, by decide, rfl, by decide, mu_1131⟩, trivial⟩⟩⟩
abbrev rm_L_strike : Room := { frames := 9, cells := 3, slots := 18, locals := 192 }
abbrev bu_L_strike : Nat → Nat × Nat := fun q => m_bud [(0, 0, 0), (10, 3, 18), (13, 3, 18), (17, 3, 18), (18, 3, 18), (22, 3, 18), (26, 3, 18), (30, 3, 18), (34, 3, 18)] q
def lv_L_strike : Nat → List Nat := fun q => m_liv [(0, [0, 1, 2, 3, 4]), (10, []), (13, []), (17, []), (18, []), (22, []), (26, []), (30, []), (34, [])] q
def b_L_strike_0 (K : m_K) (Q X : m_Po) : m_C := m_lod 2 4 (m_con (0, 0) (m_lod 2 0 (m_lod 0 1 (m_lod 0 2 (m_lod 0 3 (m_hV 9 o_X10_strike 4 (some 0) hs_L_strike K (K 10)))))))
set_option maxRecDepth 20000 in
theorem k_L_strike_0 {l : Launch} {bs : Nat} {D : va_G} {Da : Nat → ClassId} (htr : l.stackTraces = false) : m_okb l bs D Da RL cL_strike 6 (some .int) rm_L_strike (tableOf hh_L_strike) "strike" bu_L_strike 0 b_L_strike_0 := fun Q X K hK => (ok_aload (pc := 0) (m_dec dc_L_strike 0 rfl) (ok_iconst (pc := 2) (And.intro (by decide) (by decide)) (m_dec dc_L_strike 1 rfl) (ok_aload_n (pc := 3) rfl (m_dec dc_L_strike 2 rfl) (ok_iload_n (pc := 4) rfl (m_dec dc_L_strike 3 rfl) (ok_iload_n (pc := 5) rfl (m_dec dc_L_strike 4 rfl) (ok_iload_n (pc := 6) rfl (m_dec dc_L_strike 5 rfl) (ok_hV (pc := 7) (kk := 9) rfl (by decide) m_cl9 (s_X10_strike htr) (m_site_of st_X10_strike (And.intro (by decide) (by decide)) (And.intro (by decide) (by decide))) mu_1203 (m_dec dc_L_strike 6 rfl) mu_1204 mu_1202 hk_L_strike_7 (List.forall_mem_cons.mpr ⟨(hK 22), List.forall_mem_cons.mpr ⟨(hK 26), List.forall_mem_cons.mpr ⟨(hK 30), fun _ h => absurd h List.not_mem_nil⟩⟩⟩) (hK 10))))))))
def b_L_strike_10 (K : m_K) (Q X : m_Po) : m_C := j_if (fun x => x = 0) (fun x => x ≠ 0) K 17 13
set_option maxRecDepth 20000 in
theorem k_L_strike_10 {l : Launch} {bs : Nat} {D : va_G} {Da : Nat → ClassId} (htr : l.stackTraces = false) : m_okb l bs D Da RL cL_strike 6 (some .int) rm_L_strike (tableOf hh_L_strike) "strike" bu_L_strike 10 b_L_strike_10 := fun Q X K hK => (ok_if_eq (pc := 10) (m_dec dc_L_strike 7 rfl) rfl (hK 17) (hK 13))
def b_L_strike_13 (K : m_K) (Q X : m_Po) : m_C := m_con (1, 1) (j_go K 18)
set_option maxRecDepth 20000 in
theorem k_L_strike_13 {l : Launch} {bs : Nat} {D : va_G} {Da : Nat → ClassId} (htr : l.stackTraces = false) : m_okb l bs D Da RL cL_strike 6 (some .int) rm_L_strike (tableOf hh_L_strike) "strike" bu_L_strike 13 b_L_strike_13 := fun Q X K hK => (ok_lconst (pc := 13) (by decide) (And.intro (by decide) (by decide)) (m_dec dc_L_strike 8 rfl) (ok_go (pc := 14) (m_dec dc_L_strike 9 rfl) rfl (hK 18)))
def b_L_strike_17 (K : m_K) (Q X : m_Po) : m_C := m_con (1, 0) (K 18)
set_option maxRecDepth 20000 in
theorem k_L_strike_17 {l : Launch} {bs : Nat} {D : va_G} {Da : Nat → ClassId} (htr : l.stackTraces = false) : m_okb l bs D Da RL cL_strike 6 (some .int) rm_L_strike (tableOf hh_L_strike) "strike" bu_L_strike 17 b_L_strike_17 := fun Q X K hK => (ok_lconst (pc := 17) (by decide) (And.intro (by decide) (by decide)) (m_dec dc_L_strike 10 rfl) (hK 18))
def b_L_strike_18 (K : m_K) (Q X : m_Po) : m_C := m_ast 101 1 (j_go K 34)
set_option maxRecDepth 20000 in
theorem k_L_strike_18 {l : Launch} {bs : Nat} {D : va_G} {Da : Nat → ClassId} (htr : l.stackTraces = false) : m_okb l bs D Da RL cL_strike 6 (some .int) rm_L_strike (tableOf hh_L_strike) "strike" bu_L_strike 18 b_L_strike_18 := fun Q X K hK => (ok_last (pc := 18) (m_dec dc_L_strike 11 rfl) (ok_go (pc := 19) (m_dec dc_L_strike 12 rfl) rfl (hK 34)))
def b_L_strike_22 (K : m_K) (Q X : m_Po) : m_C := m_sto 2 5 (m_con (0, 1) (j_r 0 Q))
set_option maxRecDepth 20000 in
theorem k_L_strike_22 {l : Launch} {bs : Nat} {D : va_G} {Da : Nat → ClassId} (htr : l.stackTraces = false) : m_okb l bs D Da RL cL_strike 6 (some .int) rm_L_strike (tableOf hh_L_strike) "strike" bu_L_strike 22 b_L_strike_22 := fun Q X K hK => (ok_astore (pc := 22) (by decide) (m_dec dc_L_strike 13 rfl) (ok_iconst (pc := 24) (And.intro (by decide) (by decide)) (m_dec dc_L_strike 14 rfl) (ok_iret (pc := 25) (And.intro (by decide) (by decide)) rfl (m_dec dc_L_strike 15 rfl))))
def b_L_strike_26 (K : m_K) (Q X : m_Po) : m_C := m_sto 2 5 (m_con (0, 2) (j_r 0 Q))
set_option maxRecDepth 20000 in
theorem k_L_strike_26 {l : Launch} {bs : Nat} {D : va_G} {Da : Nat → ClassId} (htr : l.stackTraces = false) : m_okb l bs D Da RL cL_strike 6 (some .int) rm_L_strike (tableOf hh_L_strike) "strike" bu_L_strike 26 b_L_strike_26 := fun Q X K hK => (ok_astore (pc := 26) (by decide) (m_dec dc_L_strike 16 rfl) (ok_iconst (pc := 28) (And.intro (by decide) (by decide)) (m_dec dc_L_strike 17 rfl) (ok_iret (pc := 29) (And.intro (by decide) (by decide)) rfl (m_dec dc_L_strike 18 rfl))))
def b_L_strike_30 (K : m_K) (Q X : m_Po) : m_C := m_sto 2 5 (m_con (0, 3) (j_r 0 Q))
set_option maxRecDepth 20000 in
theorem k_L_strike_30 {l : Launch} {bs : Nat} {D : va_G} {Da : Nat → ClassId} (htr : l.stackTraces = false) : m_okb l bs D Da RL cL_strike 6 (some .int) rm_L_strike (tableOf hh_L_strike) "strike" bu_L_strike 30 b_L_strike_30 := fun Q X K hK => (ok_astore (pc := 30) (by decide) (m_dec dc_L_strike 19 rfl) (ok_iconst (pc := 32) (And.intro (by decide) (by decide)) (m_dec dc_L_strike 20 rfl) (ok_iret (pc := 33) (And.intro (by decide) (by decide)) rfl (m_dec dc_L_strike 21 rfl))))
def b_L_strike_34 (K : m_K) (Q X : m_Po) : m_C := m_con (0, 0) (j_r 0 Q)
set_option maxRecDepth 20000 in
theorem k_L_strike_34 {l : Launch} {bs : Nat} {D : va_G} {Da : Nat → ClassId} (htr : l.stackTraces = false) : m_okb l bs D Da RL cL_strike 6 (some .int) rm_L_strike (tableOf hh_L_strike) "strike" bu_L_strike 34 b_L_strike_34 := fun Q X K hK => (ok_iconst (pc := 34) (And.intro (by decide) (by decide)) (m_dec dc_L_strike 22 rfl) (ok_iret (pc := 35) (And.intro (by decide) (by decide)) rfl (m_dec dc_L_strike 23 rfl)))
def cd_L_strike : m_B := m_tab lv_L_strike [(0, b_L_strike_0), (10, b_L_strike_10), (13, b_L_strike_13), (17, b_L_strike_17), (18, b_L_strike_18), (22, b_L_strike_22), (26, b_L_strike_26), (30, b_L_strike_30), (34, b_L_strike_34)]
def o_L_strike : m_O := m_ent cd_L_strike 6
theorem st_L_strike : m_staW yL_strike cL_strike 6 (some .int) hh_L_strike 5 := ⟨mu_1205, mu_1130, ⟨by decide, by decide⟩, by decide +kernel⟩
theorem s_L_strike {l : Launch} {bs : Nat} {D : va_G} {Da : Nat → ClassId} (htr : l.stackTraces = false) : Snd l bs D Da yL_strike (.codeWith yL_strike cL_strike 6 (some .int) hh_L_strike) (some .int) rm_L_strike o_L_strike := m_methodH (hh := hh_L_strike) (bud := bu_L_strike) htr (by decide) (m_tab_cons (k_L_strike_0 htr) (m_tab_cons (k_L_strike_10 htr) (m_tab_cons (k_L_strike_13 htr) (m_tab_cons (k_L_strike_17 htr) (m_tab_cons (k_L_strike_18 htr) (m_tab_cons (k_L_strike_22 htr) (m_tab_cons (k_L_strike_26 htr) (m_tab_cons (k_L_strike_30 htr) (m_tab_cons (k_L_strike_34 htr) (m_tab_nil))))))))))
/-! ArchYardLaw.order(LArchYard;II[J)I -/
def dl_L_order : List (Nat × Instr × Nat) := [(0, .aload_n 3, 1), (1, .iconst 0, 1), (2, .aload_n 0, 1), (3, .iload_n 1, 1), (4, .iload_n 2, 1), (5, .invokevirtual 80, 3), (8, .i2l, 1), (9, .lastore, 1), (10, .goto 11, 3), (13, .astore 4, 2), (15, .iconst 1, 1), (16, .ireturn, 1), (17, .astore 4, 2), (19, .iconst 2, 1), (20, .ireturn, 1), (21, .iconst 0, 1), (22, .ireturn, 1)]
theorem dc_L_order : m_chk cL_order dl_L_order = true := by decide +kernel
abbrev hh_L_order : List (Nat × Nat × Nat × Nat) := [(0, 10, 13, 21), (0, 10, 17, 15)]
def hs_L_order : List (Int × Nat) := [(1, 13), (3, 17)]
theorem hk_L_order_5 : m_hok RL 5 (tableOf hh_L_order) hs_L_order := ⟨⟨by decide, by decide, rfl, by decide, mu_1137⟩, ⟨⟨by decide, by decide, rfl, by decide, mu_1131⟩, trivial⟩⟩
abbrev rm_L_order : Room := { frames := 8, cells := 2, slots := 12, locals := 200 }
abbrev bu_L_order : Nat → Nat × Nat := fun q => m_bud [(0, 0, 0), (8, 2, 12), (13, 2, 12), (17, 2, 12), (21, 2, 12)] q
def lv_L_order : Nat → List Nat := fun q => m_liv [(0, [0, 1, 2, 3]), (8, []), (13, []), (17, []), (21, [])] q
def b_L_order_0 (K : m_K) (Q X : m_Po) : m_C := m_lod 2 3 (m_con (0, 0) (m_lod 2 0 (m_lod 0 1 (m_lod 0 2 (m_hV 9 o_X10_order 3 (some 0) hs_L_order K (K 8))))))
set_option maxRecDepth 20000 in
theorem k_L_order_0 {l : Launch} {bs : Nat} {D : va_G} {Da : Nat → ClassId} (htr : l.stackTraces = false) : m_okb l bs D Da RL cL_order 5 (some .int) rm_L_order (tableOf hh_L_order) "order" bu_L_order 0 b_L_order_0 := fun Q X K hK => (ok_aload_n (pc := 0) rfl (m_dec dc_L_order 0 rfl) (ok_iconst (pc := 1) (And.intro (by decide) (by decide)) (m_dec dc_L_order 1 rfl) (ok_aload_n (pc := 2) rfl (m_dec dc_L_order 2 rfl) (ok_iload_n (pc := 3) rfl (m_dec dc_L_order 3 rfl) (ok_iload_n (pc := 4) rfl (m_dec dc_L_order 4 rfl) (ok_hV (pc := 5) (kk := 9) rfl (by decide) m_cl9 (s_X10_order htr) (m_site_of st_X10_order (And.intro (by decide) (by decide)) (And.intro (by decide) (by decide))) mu_1207 (m_dec dc_L_order 5 rfl) mu_1208 mu_1206 hk_L_order_5 (List.forall_mem_cons.mpr ⟨(hK 13), List.forall_mem_cons.mpr ⟨(hK 17), fun _ h => absurd h List.not_mem_nil⟩⟩) (hK 8)))))))
def b_L_order_8 (K : m_K) (Q X : m_Po) : m_C := m_un 0 1 (fun x => x) (m_ast 101 1 (j_go K 21))
set_option maxRecDepth 20000 in
theorem k_L_order_8 {l : Launch} {bs : Nat} {D : va_G} {Da : Nat → ClassId} (htr : l.stackTraces = false) : m_okb l bs D Da RL cL_order 5 (some .int) rm_L_order (tableOf hh_L_order) "order" bu_L_order 8 b_L_order_8 := fun Q X K hK => (ok_i2l (pc := 8) (m_dec dc_L_order 6 rfl) (ok_last (pc := 9) (m_dec dc_L_order 7 rfl) (ok_go (pc := 10) (m_dec dc_L_order 8 rfl) rfl (hK 21))))
def b_L_order_13 (K : m_K) (Q X : m_Po) : m_C := m_sto 2 4 (m_con (0, 1) (j_r 0 Q))
set_option maxRecDepth 20000 in
theorem k_L_order_13 {l : Launch} {bs : Nat} {D : va_G} {Da : Nat → ClassId} (htr : l.stackTraces = false) : m_okb l bs D Da RL cL_order 5 (some .int) rm_L_order (tableOf hh_L_order) "order" bu_L_order 13 b_L_order_13 := fun Q X K hK => (ok_astore (pc := 13) (by decide) (m_dec dc_L_order 9 rfl) (ok_iconst (pc := 15) (And.intro (by decide) (by decide)) (m_dec dc_L_order 10 rfl) (ok_iret (pc := 16) (And.intro (by decide) (by decide)) rfl (m_dec dc_L_order 11 rfl))))
def b_L_order_17 (K : m_K) (Q X : m_Po) : m_C := m_sto 2 4 (m_con (0, 2) (j_r 0 Q))
set_option maxRecDepth 20000 in
theorem k_L_order_17 {l : Launch} {bs : Nat} {D : va_G} {Da : Nat → ClassId} (htr : l.stackTraces = false) : m_okb l bs D Da RL cL_order 5 (some .int) rm_L_order (tableOf hh_L_order) "order" bu_L_order 17 b_L_order_17 := fun Q X K hK => (ok_astore (pc := 17) (by decide) (m_dec dc_L_order 12 rfl) (ok_iconst (pc := 19) (And.intro (by decide) (by decide)) (m_dec dc_L_order 13 rfl) (ok_iret (pc := 20) (And.intro (by decide) (by decide)) rfl (m_dec dc_L_order 14 rfl))))
def b_L_order_21 (K : m_K) (Q X : m_Po) : m_C := m_con (0, 0) (j_r 0 Q)
set_option maxRecDepth 20000 in
theorem k_L_order_21 {l : Launch} {bs : Nat} {D : va_G} {Da : Nat → ClassId} (htr : l.stackTraces = false) : m_okb l bs D Da RL cL_order 5 (some .int) rm_L_order (tableOf hh_L_order) "order" bu_L_order 21 b_L_order_21 := fun Q X K hK => (ok_iconst (pc := 21) (And.intro (by decide) (by decide)) (m_dec dc_L_order 15 rfl) (ok_iret (pc := 22) (And.intro (by decide) (by decide)) rfl (m_dec dc_L_order 16 rfl)))
def cd_L_order : m_B := m_tab lv_L_order [(0, b_L_order_0), (8, b_L_order_8), (13, b_L_order_13), (17, b_L_order_17), (21, b_L_order_21)]
def o_L_order : m_O := m_ent cd_L_order 5
theorem st_L_order : m_staW yL_order cL_order 5 (some .int) hh_L_order 4 := ⟨mu_1209, mu_1130, ⟨by decide, by decide⟩, by decide +kernel⟩
theorem s_L_order {l : Launch} {bs : Nat} {D : va_G} {Da : Nat → ClassId} (htr : l.stackTraces = false) : Snd l bs D Da yL_order (.codeWith yL_order cL_order 5 (some .int) hh_L_order) (some .int) rm_L_order o_L_order := m_methodH (hh := hh_L_order) (bud := bu_L_order) htr (by decide) (m_tab_cons (k_L_order_0 htr) (m_tab_cons (k_L_order_8 htr) (m_tab_cons (k_L_order_13 htr) (m_tab_cons (k_L_order_17 htr) (m_tab_cons (k_L_order_21 htr) (m_tab_nil))))))
