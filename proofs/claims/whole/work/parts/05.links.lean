theorem pm_i0 (i : Nat) {q : MethodName × Nat} {w : Cond} (h : lw_privs[i]? = some q) (hw : Cond.selects q.1.cls q.1 q.1 = w) : w ∈ pm_T := by
  subst hw
  exact List.mem_filter.mpr ⟨List.mem_append_left _ (List.mem_map.mpr ⟨q, List.mem_of_getElem? h, rfl⟩), rfl⟩
theorem pm_i1 (i : Nat) {w : Cond} (h : tables_1_1[i]? = some w) (hg : goodWord w = true) : w ∈ pm_T := List.mem_filter.mpr ⟨List.mem_append_right _ (show w ∈ tables_1 from List.mem_append_left _ (List.mem_of_getElem? h)), hg⟩
theorem pm_i2 (i : Nat) {w : Cond} (h : tables_1_2[i]? = some w) (hg : goodWord w = true) : w ∈ pm_T := List.mem_filter.mpr ⟨List.mem_append_right _ (show w ∈ tables_1 from List.mem_append_right _ (List.mem_append_left _ (List.mem_of_getElem? h))), hg⟩
theorem pm_i3 (i : Nat) {w : Cond} (h : tables_1_3[i]? = some w) (hg : goodWord w = true) : w ∈ pm_T := List.mem_filter.mpr ⟨List.mem_append_right _ (show w ∈ tables_1 from List.mem_append_right _ (List.mem_append_right _ (List.mem_append_left _ (List.mem_of_getElem? h)))), hg⟩
theorem pm_i4 (i : Nat) {w : Cond} (h : tables_1_4[i]? = some w) (hg : goodWord w = true) : w ∈ pm_T := List.mem_filter.mpr ⟨List.mem_append_right _ (show w ∈ tables_1 from List.mem_append_right _ (List.mem_append_right _ (List.mem_append_right _ (List.mem_append_left _ (List.mem_of_getElem? h))))), hg⟩
theorem pm_i5 (i : Nat) {w : Cond} (h : tables_1_5[i]? = some w) (hg : goodWord w = true) : w ∈ pm_T := List.mem_filter.mpr ⟨List.mem_append_right _ (show w ∈ tables_1 from List.mem_append_right _ (List.mem_append_right _ (List.mem_append_right _ (List.mem_append_right _ (List.mem_append_left _ (List.mem_of_getElem? h)))))), hg⟩
theorem pm_i6 (i : Nat) {w : Cond} (h : tables_1_6[i]? = some w) (hg : goodWord w = true) : w ∈ pm_T := List.mem_filter.mpr ⟨List.mem_append_right _ (show w ∈ tables_1 from List.mem_append_right _ (List.mem_append_right _ (List.mem_append_right _ (List.mem_append_right _ (List.mem_append_right _ (List.mem_of_getElem? h)))))), hg⟩
theorem iX0 : ∀ w ∈ u_ws RX0 TX0 5, w ∈ pm_T := List.forall_mem_cons.mpr ⟨pm_i1 230 rfl rfl, List.forall_mem_cons.mpr ⟨pm_i1 232 rfl rfl, List.forall_mem_cons.mpr ⟨pm_i1 234 rfl rfl, List.forall_mem_cons.mpr ⟨pm_i1 236 rfl rfl, List.forall_mem_cons.mpr ⟨pm_i1 238 rfl rfl, fun _ h => absurd h List.not_mem_nil⟩⟩⟩⟩⟩
theorem clX0 : pm_cl 0 RX0 TX0 5 tyX0 := ⟨rfl, iX0, tyX0_ok, nmX0⟩
theorem iX1 : ∀ w ∈ u_ws RX1 TX1 8, w ∈ pm_T := List.forall_mem_cons.mpr ⟨pm_i1 170 rfl rfl, List.forall_mem_cons.mpr ⟨pm_i1 172 rfl rfl, List.forall_mem_cons.mpr ⟨pm_i1 174 rfl rfl, List.forall_mem_cons.mpr ⟨pm_i1 176 rfl rfl, List.forall_mem_cons.mpr ⟨pm_i1 178 rfl rfl, List.forall_mem_cons.mpr ⟨pm_i1 180 rfl rfl, List.forall_mem_cons.mpr ⟨pm_i1 182 rfl rfl, List.forall_mem_cons.mpr ⟨pm_i1 184 rfl rfl, fun _ h => absurd h List.not_mem_nil⟩⟩⟩⟩⟩⟩⟩⟩
theorem clX1 : pm_cl 1 RX1 TX1 8 tyX1 := ⟨rfl, iX1, tyX1_ok, nmX1⟩
theorem iX2 : ∀ w ∈ u_ws RX2 TX2 5, w ∈ pm_T := List.forall_mem_cons.mpr ⟨pm_i1 83 rfl rfl, List.forall_mem_cons.mpr ⟨pm_i1 85 rfl rfl, List.forall_mem_cons.mpr ⟨pm_i1 87 rfl rfl, List.forall_mem_cons.mpr ⟨pm_i1 89 rfl rfl, List.forall_mem_cons.mpr ⟨pm_i1 91 rfl rfl, fun _ h => absurd h List.not_mem_nil⟩⟩⟩⟩⟩
theorem clX2 : pm_cl 2 RX2 TX2 5 tyX2 := ⟨rfl, iX2, tyX2_ok, nmX2⟩
theorem iX3 : ∀ w ∈ u_ws RX3 TX3 3, w ∈ pm_T := List.forall_mem_cons.mpr ⟨pm_i2 11 rfl rfl, List.forall_mem_cons.mpr ⟨pm_i2 13 rfl rfl, List.forall_mem_cons.mpr ⟨pm_i2 15 rfl rfl, fun _ h => absurd h List.not_mem_nil⟩⟩⟩
theorem clX3 : pm_cl 3 RX3 TX3 3 tyX3 := ⟨rfl, iX3, tyX3_ok, nmX3⟩
theorem iX4 : ∀ w ∈ u_ws RX4 TX4 10, w ∈ pm_T := List.forall_mem_cons.mpr ⟨pm_i1 104 rfl rfl, List.forall_mem_cons.mpr ⟨pm_i1 106 rfl rfl, List.forall_mem_cons.mpr ⟨pm_i1 108 rfl rfl, List.forall_mem_cons.mpr ⟨pm_i1 110 rfl rfl, List.forall_mem_cons.mpr ⟨pm_i1 112 rfl rfl, List.forall_mem_cons.mpr ⟨pm_i1 114 rfl rfl, List.forall_mem_cons.mpr ⟨pm_i1 116 rfl rfl, List.forall_mem_cons.mpr ⟨pm_i1 118 rfl rfl, List.forall_mem_cons.mpr ⟨pm_i1 120 rfl rfl, List.forall_mem_cons.mpr ⟨pm_i1 122 rfl rfl, fun _ h => absurd h List.not_mem_nil⟩⟩⟩⟩⟩⟩⟩⟩⟩⟩
theorem clX4 : pm_cl 4 RX4 TX4 10 tyX4 := ⟨rfl, iX4, tyX4_ok, nmX4⟩
theorem iX5 : ∀ w ∈ u_ws RX5 TX5 2, w ∈ pm_T := List.forall_mem_cons.mpr ⟨pm_i1 34 rfl rfl, List.forall_mem_cons.mpr ⟨pm_i1 36 rfl rfl, fun _ h => absurd h List.not_mem_nil⟩⟩
theorem clX5 : pm_cl 5 RX5 TX5 2 tyX5 := ⟨rfl, iX5, tyX5_ok, nmX5⟩
theorem iX6 : ∀ w ∈ u_ws RX6 TX6 5, w ∈ pm_T := List.forall_mem_cons.mpr ⟨pm_i1 51 rfl rfl, List.forall_mem_cons.mpr ⟨pm_i1 53 rfl rfl, List.forall_mem_cons.mpr ⟨pm_i1 55 rfl rfl, List.forall_mem_cons.mpr ⟨pm_i1 57 rfl rfl, List.forall_mem_cons.mpr ⟨pm_i1 59 rfl rfl, fun _ h => absurd h List.not_mem_nil⟩⟩⟩⟩⟩
theorem clX6 : pm_cl 6 RX6 TX6 5 tyX6 := ⟨rfl, iX6, tyX6_ok, nmX6⟩
theorem iX7 : ∀ w ∈ u_ws RX7 TX7 6, w ∈ pm_T := List.forall_mem_cons.mpr ⟨pm_i1 139 rfl rfl, List.forall_mem_cons.mpr ⟨pm_i1 141 rfl rfl, List.forall_mem_cons.mpr ⟨pm_i1 143 rfl rfl, List.forall_mem_cons.mpr ⟨pm_i1 145 rfl rfl, List.forall_mem_cons.mpr ⟨pm_i1 147 rfl rfl, List.forall_mem_cons.mpr ⟨pm_i1 149 rfl rfl, fun _ h => absurd h List.not_mem_nil⟩⟩⟩⟩⟩⟩
theorem clX7 : pm_cl 7 RX7 TX7 6 tyX7 := ⟨rfl, iX7, tyX7_ok, nmX7⟩
theorem iX8 : ∀ w ∈ u_ws RX8 TX8 5, w ∈ pm_T := List.forall_mem_cons.mpr ⟨pm_i2 33 rfl rfl, List.forall_mem_cons.mpr ⟨pm_i2 35 rfl rfl, List.forall_mem_cons.mpr ⟨pm_i2 37 rfl rfl, List.forall_mem_cons.mpr ⟨pm_i2 39 rfl rfl, List.forall_mem_cons.mpr ⟨pm_i2 41 rfl rfl, fun _ h => absurd h List.not_mem_nil⟩⟩⟩⟩⟩
theorem clX8 : pm_cl 8 RX8 TX8 5 tyX8 := ⟨rfl, iX8, tyX8_ok, nmX8⟩
theorem iX9 : ∀ w ∈ u_ws RX9 TX9 8, w ∈ pm_T := List.forall_mem_cons.mpr ⟨pm_i1 201 rfl rfl, List.forall_mem_cons.mpr ⟨pm_i1 203 rfl rfl, List.forall_mem_cons.mpr ⟨pm_i1 205 rfl rfl, List.forall_mem_cons.mpr ⟨pm_i1 207 rfl rfl, List.forall_mem_cons.mpr ⟨pm_i1 209 rfl rfl, List.forall_mem_cons.mpr ⟨pm_i1 211 rfl rfl, List.forall_mem_cons.mpr ⟨pm_i1 213 rfl rfl, List.forall_mem_cons.mpr ⟨pm_i1 215 rfl rfl, fun _ h => absurd h List.not_mem_nil⟩⟩⟩⟩⟩⟩⟩⟩
theorem clX9 : pm_cl 9 RX9 TX9 8 tyX9 := ⟨rfl, iX9, tyX9_ok, nmX9⟩
theorem iX10 : ∀ w ∈ u_ws RX10 TX10 14, w ∈ pm_T := List.forall_mem_cons.mpr ⟨pm_i2 58 rfl rfl, List.forall_mem_cons.mpr ⟨pm_i2 60 rfl rfl, List.forall_mem_cons.mpr ⟨pm_i2 62 rfl rfl, List.forall_mem_cons.mpr ⟨pm_i2 64 rfl rfl, List.forall_mem_cons.mpr ⟨pm_i2 66 rfl rfl, List.forall_mem_cons.mpr ⟨pm_i2 68 rfl rfl, List.forall_mem_cons.mpr ⟨pm_i2 70 rfl rfl, List.forall_mem_cons.mpr ⟨pm_i2 72 rfl rfl, List.forall_mem_cons.mpr ⟨pm_i2 74 rfl rfl, List.forall_mem_cons.mpr ⟨pm_i2 76 rfl rfl, List.forall_mem_cons.mpr ⟨pm_i2 78 rfl rfl, List.forall_mem_cons.mpr ⟨pm_i2 80 rfl rfl, List.forall_mem_cons.mpr ⟨pm_i2 82 rfl rfl, List.forall_mem_cons.mpr ⟨pm_i2 84 rfl rfl, fun _ h => absurd h List.not_mem_nil⟩⟩⟩⟩⟩⟩⟩⟩⟩⟩⟩⟩⟩⟩
theorem clX10 : pm_cl 10 RX10 TX10 14 tyX10 := ⟨rfl, iX10, tyX10_ok, nmX10⟩
theorem iX11 : ∀ w ∈ u_ws RX11 TX11 59, w ∈ pm_T := List.forall_mem_cons.mpr ⟨pm_i5 73 rfl rfl, List.forall_mem_cons.mpr ⟨pm_i5 75 rfl rfl, List.forall_mem_cons.mpr ⟨pm_i5 77 rfl rfl, List.forall_mem_cons.mpr ⟨pm_i5 79 rfl rfl, List.forall_mem_cons.mpr ⟨pm_i5 81 rfl rfl, List.forall_mem_cons.mpr ⟨pm_i5 83 rfl rfl, List.forall_mem_cons.mpr ⟨pm_i5 85 rfl rfl, List.forall_mem_cons.mpr ⟨pm_i5 87 rfl rfl, List.forall_mem_cons.mpr ⟨pm_i5 89 rfl rfl, List.forall_mem_cons.mpr ⟨pm_i5 91 rfl rfl, List.forall_mem_cons.mpr ⟨pm_i5 93 rfl rfl, List.forall_mem_cons.mpr ⟨pm_i5 95 rfl rfl, List.forall_mem_cons.mpr ⟨pm_i5 97 rfl rfl, List.forall_mem_cons.mpr ⟨pm_i5 99 rfl rfl, List.forall_mem_cons.mpr ⟨pm_i5 101 rfl rfl, List.forall_mem_cons.mpr ⟨pm_i5 103 rfl rfl, List.forall_mem_cons.mpr ⟨pm_i5 105 rfl rfl, List.forall_mem_cons.mpr ⟨pm_i5 107 rfl rfl, List.forall_mem_cons.mpr ⟨pm_i5 109 rfl rfl, List.forall_mem_cons.mpr ⟨pm_i5 111 rfl rfl, List.forall_mem_cons.mpr ⟨pm_i5 113 rfl rfl, List.forall_mem_cons.mpr ⟨pm_i5 115 rfl rfl, List.forall_mem_cons.mpr ⟨pm_i5 117 rfl rfl, List.forall_mem_cons.mpr ⟨pm_i5 119 rfl rfl, List.forall_mem_cons.mpr ⟨pm_i5 121 rfl rfl, List.forall_mem_cons.mpr ⟨pm_i5 123 rfl rfl, List.forall_mem_cons.mpr ⟨pm_i5 125 rfl rfl, List.forall_mem_cons.mpr ⟨pm_i5 127 rfl rfl, List.forall_mem_cons.mpr ⟨pm_i5 129 rfl rfl, List.forall_mem_cons.mpr ⟨pm_i5 131 rfl rfl, List.forall_mem_cons.mpr ⟨pm_i5 133 rfl rfl, List.forall_mem_cons.mpr ⟨pm_i5 135 rfl rfl, List.forall_mem_cons.mpr ⟨pm_i5 137 rfl rfl, List.forall_mem_cons.mpr ⟨pm_i5 139 rfl rfl, List.forall_mem_cons.mpr ⟨pm_i5 141 rfl rfl, List.forall_mem_cons.mpr ⟨pm_i5 143 rfl rfl, List.forall_mem_cons.mpr ⟨pm_i5 145 rfl rfl, List.forall_mem_cons.mpr ⟨pm_i5 147 rfl rfl, List.forall_mem_cons.mpr ⟨pm_i5 149 rfl rfl, List.forall_mem_cons.mpr ⟨pm_i5 151 rfl rfl, List.forall_mem_cons.mpr ⟨pm_i5 153 rfl rfl, List.forall_mem_cons.mpr ⟨pm_i5 155 rfl rfl, List.forall_mem_cons.mpr ⟨pm_i5 157 rfl rfl, List.forall_mem_cons.mpr ⟨pm_i5 159 rfl rfl, List.forall_mem_cons.mpr ⟨pm_i5 161 rfl rfl, List.forall_mem_cons.mpr ⟨pm_i5 163 rfl rfl, List.forall_mem_cons.mpr ⟨pm_i5 165 rfl rfl, List.forall_mem_cons.mpr ⟨pm_i5 167 rfl rfl, List.forall_mem_cons.mpr ⟨pm_i5 169 rfl rfl, List.forall_mem_cons.mpr ⟨pm_i5 171 rfl rfl, List.forall_mem_cons.mpr ⟨pm_i5 173 rfl rfl, List.forall_mem_cons.mpr ⟨pm_i5 175 rfl rfl, List.forall_mem_cons.mpr ⟨pm_i5 177 rfl rfl, List.forall_mem_cons.mpr ⟨pm_i5 179 rfl rfl, List.forall_mem_cons.mpr ⟨pm_i5 181 rfl rfl, List.forall_mem_cons.mpr ⟨pm_i5 183 rfl rfl, List.forall_mem_cons.mpr ⟨pm_i5 185 rfl rfl, List.forall_mem_cons.mpr ⟨pm_i5 187 rfl rfl, List.forall_mem_cons.mpr ⟨pm_i5 189 rfl rfl, fun _ h => absurd h List.not_mem_nil⟩⟩⟩⟩⟩⟩⟩⟩⟩⟩⟩⟩⟩⟩⟩⟩⟩⟩⟩⟩⟩⟩⟩⟩⟩⟩⟩⟩⟩⟩⟩⟩⟩⟩⟩⟩⟩⟩⟩⟩⟩⟩⟩⟩⟩⟩⟩⟩⟩⟩⟩⟩⟩⟩⟩⟩⟩⟩⟩
theorem clX11 : pm_cl 11 RX11 TX11 59 tyX11 := ⟨rfl, iX11, tyX11_ok, nmX11⟩
theorem fl_X5_9 : pm_fl "ErrorSlices$Text" 9 5 0 true (FieldType.array FieldType.byte) := ⟨RX5, TX5, 2, tyX5, clX5, by decide, pm_i1 32 rfl rfl, rfl, rfl, fun _ => rfl⟩
theorem fl_X5_15 : pm_fl "ErrorSlices$Text" 15 5 1 false (FieldType.int) := ⟨RX5, TX5, 2, tyX5, clX5, by decide, pm_i1 33 rfl rfl, rfl, rfl, fun _ => rfl⟩
theorem fl_X6_25 : pm_fl "ErrorSlices$Tokens" 25 6 0 true (FieldType.object "ErrorSlices$Text") := ⟨RX6, TX6, 5, tyX6, clX6, by decide, pm_i1 46 rfl rfl, rfl, rfl, fun _ => rfl⟩
theorem fl_X6_9 : pm_fl "ErrorSlices$Tokens" 9 6 1 true (FieldType.array FieldType.int) := ⟨RX6, TX6, 5, tyX6, clX6, by decide, pm_i1 47 rfl rfl, rfl, rfl, fun _ => rfl⟩
theorem fl_X6_15 : pm_fl "ErrorSlices$Tokens" 15 6 2 true (FieldType.array FieldType.int) := ⟨RX6, TX6, 5, tyX6, clX6, by decide, pm_i1 48 rfl rfl, rfl, rfl, fun _ => rfl⟩
theorem fl_X6_18 : pm_fl "ErrorSlices$Tokens" 18 6 3 true (FieldType.array FieldType.int) := ⟨RX6, TX6, 5, tyX6, clX6, by decide, pm_i1 49 rfl rfl, rfl, rfl, fun _ => rfl⟩
theorem fl_X6_21 : pm_fl "ErrorSlices$Tokens" 21 6 4 false (FieldType.int) := ⟨RX6, TX6, 5, tyX6, clX6, by decide, pm_i1 50 rfl rfl, rfl, rfl, fun _ => rfl⟩
theorem fl_X2_15 : pm_fl "ErrorSlices$Nodes" 15 2 0 true (FieldType.array FieldType.int) := ⟨RX2, TX2, 5, tyX2, clX2, by decide, pm_i1 78 rfl rfl, rfl, rfl, fun _ => rfl⟩
theorem fl_X2_21 : pm_fl "ErrorSlices$Nodes" 21 2 1 true (FieldType.array FieldType.int) := ⟨RX2, TX2, 5, tyX2, clX2, by decide, pm_i1 79 rfl rfl, rfl, rfl, fun _ => rfl⟩
theorem fl_X2_24 : pm_fl "ErrorSlices$Nodes" 24 2 2 true (FieldType.array FieldType.int) := ⟨RX2, TX2, 5, tyX2, clX2, by decide, pm_i1 80 rfl rfl, rfl, rfl, fun _ => rfl⟩
theorem fl_X2_27 : pm_fl "ErrorSlices$Nodes" 27 2 3 true (FieldType.array FieldType.int) := ⟨RX2, TX2, 5, tyX2, clX2, by decide, pm_i1 81 rfl rfl, rfl, rfl, fun _ => rfl⟩
theorem fl_X2_30 : pm_fl "ErrorSlices$Nodes" 30 2 4 true (FieldType.array FieldType.int) := ⟨RX2, TX2, 5, tyX2, clX2, by decide, pm_i1 82 rfl rfl, rfl, rfl, fun _ => rfl⟩
theorem fl_X4_46 : pm_fl "ErrorSlices$Parser" 46 4 0 true (FieldType.object "ErrorSlices$Tokens") := ⟨RX4, TX4, 10, tyX4, clX4, by decide, pm_i1 94 rfl rfl, rfl, rfl, fun _ => rfl⟩
theorem fl_X4_16 : pm_fl "ErrorSlices$Parser" 16 4 1 true (FieldType.object "ErrorSlices$Nodes") := ⟨RX4, TX4, 10, tyX4, clX4, by decide, pm_i1 95 rfl rfl, rfl, rfl, fun _ => rfl⟩
theorem fl_X4_20 : pm_fl "ErrorSlices$Parser" 20 4 2 true (FieldType.array FieldType.int) := ⟨RX4, TX4, 10, tyX4, clX4, by decide, pm_i1 96 rfl rfl, rfl, rfl, fun _ => rfl⟩
theorem fl_X4_24 : pm_fl "ErrorSlices$Parser" 24 4 3 true (FieldType.array FieldType.int) := ⟨RX4, TX4, 10, tyX4, clX4, by decide, pm_i1 97 rfl rfl, rfl, rfl, fun _ => rfl⟩
theorem fl_X4_27 : pm_fl "ErrorSlices$Parser" 27 4 4 false (FieldType.int) := ⟨RX4, TX4, 10, tyX4, clX4, by decide, pm_i1 98 rfl rfl, rfl, rfl, fun _ => rfl⟩
theorem fl_X4_31 : pm_fl "ErrorSlices$Parser" 31 4 5 false (FieldType.int) := ⟨RX4, TX4, 10, tyX4, clX4, by decide, pm_i1 99 rfl rfl, rfl, rfl, fun _ => rfl⟩
theorem fl_X4_34 : pm_fl "ErrorSlices$Parser" 34 4 6 false (FieldType.int) := ⟨RX4, TX4, 10, tyX4, clX4, by decide, pm_i1 100 rfl rfl, rfl, rfl, fun _ => rfl⟩
theorem fl_X4_37 : pm_fl "ErrorSlices$Parser" 37 4 7 false (FieldType.int) := ⟨RX4, TX4, 10, tyX4, clX4, by decide, pm_i1 101 rfl rfl, rfl, rfl, fun _ => rfl⟩
theorem fl_X4_40 : pm_fl "ErrorSlices$Parser" 40 4 8 false (FieldType.int) := ⟨RX4, TX4, 10, tyX4, clX4, by decide, pm_i1 102 rfl rfl, rfl, rfl, fun _ => rfl⟩
theorem fl_X4_43 : pm_fl "ErrorSlices$Parser" 43 4 9 false (FieldType.int) := ⟨RX4, TX4, 10, tyX4, clX4, by decide, pm_i1 103 rfl rfl, rfl, rfl, fun _ => rfl⟩
theorem fl_X7_14 : pm_fl "ErrorSlices$Tree" 14 7 0 true (FieldType.object "ErrorSlices$Nodes") := ⟨RX7, TX7, 6, tyX7, clX7, by decide, pm_i1 133 rfl rfl, rfl, rfl, fun _ => rfl⟩
theorem fl_X7_20 : pm_fl "ErrorSlices$Tree" 20 7 1 true (FieldType.array FieldType.int) := ⟨RX7, TX7, 6, tyX7, clX7, by decide, pm_i1 134 rfl rfl, rfl, rfl, fun _ => rfl⟩
theorem fl_X7_24 : pm_fl "ErrorSlices$Tree" 24 7 2 true (FieldType.array FieldType.int) := ⟨RX7, TX7, 6, tyX7, clX7, by decide, pm_i1 135 rfl rfl, rfl, rfl, fun _ => rfl⟩
theorem fl_X7_27 : pm_fl "ErrorSlices$Tree" 27 7 3 true (FieldType.array FieldType.int) := ⟨RX7, TX7, 6, tyX7, clX7, by decide, pm_i1 136 rfl rfl, rfl, rfl, fun _ => rfl⟩
theorem fl_X7_30 : pm_fl "ErrorSlices$Tree" 30 7 4 false (FieldType.int) := ⟨RX7, TX7, 6, tyX7, clX7, by decide, pm_i1 137 rfl rfl, rfl, rfl, fun _ => rfl⟩
theorem fl_X7_34 : pm_fl "ErrorSlices$Tree" 34 7 5 false (FieldType.int) := ⟨RX7, TX7, 6, tyX7, clX7, by decide, pm_i1 138 rfl rfl, rfl, rfl, fun _ => rfl⟩
theorem fl_X1_31 : pm_fl "ErrorSlices$Copies" 31 1 0 true (FieldType.object "ErrorSlices$Tree") := ⟨RX1, TX1, 8, tyX1, clX1, by decide, pm_i1 162 rfl rfl, rfl, rfl, fun _ => rfl⟩
theorem fl_X1_41 : pm_fl "ErrorSlices$Copies" 41 1 1 true (FieldType.object "ErrorSlices$Nodes") := ⟨RX1, TX1, 8, tyX1, clX1, by decide, pm_i1 163 rfl rfl, rfl, rfl, fun _ => rfl⟩
theorem fl_X1_9 : pm_fl "ErrorSlices$Copies" 9 1 2 true (FieldType.array FieldType.int) := ⟨RX1, TX1, 8, tyX1, clX1, by decide, pm_i1 164 rfl rfl, rfl, rfl, fun _ => rfl⟩
theorem fl_X1_15 : pm_fl "ErrorSlices$Copies" 15 1 3 true (FieldType.array FieldType.int) := ⟨RX1, TX1, 8, tyX1, clX1, by decide, pm_i1 165 rfl rfl, rfl, rfl, fun _ => rfl⟩
theorem fl_X1_18 : pm_fl "ErrorSlices$Copies" 18 1 4 true (FieldType.array FieldType.int) := ⟨RX1, TX1, 8, tyX1, clX1, by decide, pm_i1 166 rfl rfl, rfl, rfl, fun _ => rfl⟩
theorem fl_X1_21 : pm_fl "ErrorSlices$Copies" 21 1 5 true (FieldType.array FieldType.int) := ⟨RX1, TX1, 8, tyX1, clX1, by decide, pm_i1 167 rfl rfl, rfl, rfl, fun _ => rfl⟩
theorem fl_X1_24 : pm_fl "ErrorSlices$Copies" 24 1 6 false (FieldType.int) := ⟨RX1, TX1, 8, tyX1, clX1, by decide, pm_i1 168 rfl rfl, rfl, rfl, fun _ => rfl⟩
theorem fl_X1_28 : pm_fl "ErrorSlices$Copies" 28 1 7 false (FieldType.int) := ⟨RX1, TX1, 8, tyX1, clX1, by decide, pm_i1 169 rfl rfl, rfl, rfl, fun _ => rfl⟩
theorem fl_X9_11 : pm_fl "ErrorSlices$Types" 11 9 0 true (FieldType.array FieldType.int) := ⟨RX9, TX9, 8, tyX9, clX9, by decide, pm_i1 193 rfl rfl, rfl, rfl, fun _ => rfl⟩
theorem fl_X9_15 : pm_fl "ErrorSlices$Types" 15 9 1 true (FieldType.array FieldType.int) := ⟨RX9, TX9, 8, tyX9, clX9, by decide, pm_i1 194 rfl rfl, rfl, rfl, fun _ => rfl⟩
theorem fl_X9_18 : pm_fl "ErrorSlices$Types" 18 9 2 true (FieldType.array FieldType.int) := ⟨RX9, TX9, 8, tyX9, clX9, by decide, pm_i1 195 rfl rfl, rfl, rfl, fun _ => rfl⟩
theorem fl_X9_21 : pm_fl "ErrorSlices$Types" 21 9 3 true (FieldType.array FieldType.int) := ⟨RX9, TX9, 8, tyX9, clX9, by decide, pm_i1 196 rfl rfl, rfl, rfl, fun _ => rfl⟩
theorem fl_X9_24 : pm_fl "ErrorSlices$Types" 24 9 4 true (FieldType.array FieldType.int) := ⟨RX9, TX9, 8, tyX9, clX9, by decide, pm_i1 197 rfl rfl, rfl, rfl, fun _ => rfl⟩
theorem fl_X9_27 : pm_fl "ErrorSlices$Types" 27 9 5 false (FieldType.int) := ⟨RX9, TX9, 8, tyX9, clX9, by decide, pm_i1 198 rfl rfl, rfl, rfl, fun _ => rfl⟩
theorem fl_X9_31 : pm_fl "ErrorSlices$Types" 31 9 6 false (FieldType.int) := ⟨RX9, TX9, 8, tyX9, clX9, by decide, pm_i1 199 rfl rfl, rfl, rfl, fun _ => rfl⟩
theorem fl_X9_34 : pm_fl "ErrorSlices$Types" 34 9 7 false (FieldType.int) := ⟨RX9, TX9, 8, tyX9, clX9, by decide, pm_i1 200 rfl rfl, rfl, rfl, fun _ => rfl⟩
theorem fl_X0_15 : pm_fl "ErrorSlices$Checker" 15 0 0 true (FieldType.object "ErrorSlices$Tree") := ⟨RX0, TX0, 5, tyX0, clX0, by decide, pm_i1 225 rfl rfl, rfl, rfl, fun _ => rfl⟩
theorem fl_X0_25 : pm_fl "ErrorSlices$Checker" 25 0 1 true (FieldType.object "ErrorSlices$Nodes") := ⟨RX0, TX0, 5, tyX0, clX0, by decide, pm_i1 226 rfl rfl, rfl, rfl, fun _ => rfl⟩
theorem fl_X0_28 : pm_fl "ErrorSlices$Checker" 28 0 2 true (FieldType.object "ErrorSlices$Copies") := ⟨RX0, TX0, 5, tyX0, clX0, by decide, pm_i1 227 rfl rfl, rfl, rfl, fun _ => rfl⟩
theorem fl_X0_32 : pm_fl "ErrorSlices$Checker" 32 0 3 true (FieldType.object "ErrorSlices$Types") := ⟨RX0, TX0, 5, tyX0, clX0, by decide, pm_i1 228 rfl rfl, rfl, rfl, fun _ => rfl⟩
theorem fl_X0_9 : pm_fl "ErrorSlices$Checker" 9 0 4 true (FieldType.array FieldType.boolean) := ⟨RX0, TX0, 5, tyX0, clX0, by decide, pm_i1 229 rfl rfl, rfl, rfl, fun _ => rfl⟩
theorem fl_X3_9 : pm_fl "ErrorSlices$Output" 9 3 0 true (FieldType.array FieldType.byte) := ⟨RX3, TX3, 3, tyX3, clX3, by decide, pm_i2 8 rfl rfl, rfl, rfl, fun _ => rfl⟩
theorem fl_X3_15 : pm_fl "ErrorSlices$Output" 15 3 1 false (FieldType.int) := ⟨RX3, TX3, 3, tyX3, clX3, by decide, pm_i2 9 rfl rfl, rfl, rfl, fun _ => rfl⟩
theorem fl_X3_19 : pm_fl "ErrorSlices$Output" 19 3 2 false (FieldType.int) := ⟨RX3, TX3, 3, tyX3, clX3, by decide, pm_i2 10 rfl rfl, rfl, rfl, fun _ => rfl⟩
theorem fl_X8_18 : pm_fl "ErrorSlices$TypeWriter" 18 8 0 true (FieldType.object "ErrorSlices$Types") := ⟨RX8, TX8, 5, tyX8, clX8, by decide, pm_i2 28 rfl rfl, rfl, rfl, fun _ => rfl⟩
theorem fl_X8_22 : pm_fl "ErrorSlices$TypeWriter" 22 8 1 true (FieldType.object "ErrorSlices$Output") := ⟨RX8, TX8, 5, tyX8, clX8, by decide, pm_i2 29 rfl rfl, rfl, rfl, fun _ => rfl⟩
theorem fl_X8_32 : pm_fl "ErrorSlices$TypeWriter" 32 8 2 true (FieldType.array FieldType.int) := ⟨RX8, TX8, 5, tyX8, clX8, by decide, pm_i2 30 rfl rfl, rfl, rfl, fun _ => rfl⟩
theorem fl_X8_9 : pm_fl "ErrorSlices$TypeWriter" 9 8 3 false (FieldType.int) := ⟨RX8, TX8, 5, tyX8, clX8, by decide, pm_i2 31 rfl rfl, rfl, rfl, fun _ => rfl⟩
theorem fl_X8_15 : pm_fl "ErrorSlices$TypeWriter" 15 8 4 false (FieldType.int) := ⟨RX8, TX8, 5, tyX8, clX8, by decide, pm_i2 32 rfl rfl, rfl, rfl, fun _ => rfl⟩
theorem fl_X10_10 : pm_fl "ErrorSlices" 10 10 0 true (FieldType.object "ErrorSlices$Text") := ⟨RX10, TX10, 14, tyX10, clX10, by decide, pm_i2 44 rfl rfl, rfl, rfl, fun _ => rfl⟩
theorem fl_X10_21 : pm_fl "ErrorSlices" 21 10 1 true (FieldType.object "ErrorSlices$Tokens") := ⟨RX10, TX10, 14, tyX10, clX10, by decide, pm_i2 45 rfl rfl, rfl, rfl, fun _ => rfl⟩
theorem fl_X10_30 : pm_fl "ErrorSlices" 30 10 2 true (FieldType.object "ErrorSlices$Parser") := ⟨RX10, TX10, 14, tyX10, clX10, by decide, pm_i2 46 rfl rfl, rfl, rfl, fun _ => rfl⟩
theorem fl_X10_37 : pm_fl "ErrorSlices" 37 10 3 true (FieldType.object "ErrorSlices$Tree") := ⟨RX10, TX10, 14, tyX10, clX10, by decide, pm_i2 47 rfl rfl, rfl, rfl, fun _ => rfl⟩
theorem fl_X10_46 : pm_fl "ErrorSlices" 46 10 4 true (FieldType.object "ErrorSlices$Copies") := ⟨RX10, TX10, 14, tyX10, clX10, by decide, pm_i2 48 rfl rfl, rfl, rfl, fun _ => rfl⟩
theorem fl_X10_53 : pm_fl "ErrorSlices" 53 10 5 true (FieldType.object "ErrorSlices$Types") := ⟨RX10, TX10, 14, tyX10, clX10, by decide, pm_i2 49 rfl rfl, rfl, rfl, fun _ => rfl⟩
theorem fl_X10_62 : pm_fl "ErrorSlices" 62 10 6 true (FieldType.object "ErrorSlices$Checker") := ⟨RX10, TX10, 14, tyX10, clX10, by decide, pm_i2 50 rfl rfl, rfl, rfl, fun _ => rfl⟩
theorem fl_X10_69 : pm_fl "ErrorSlices" 69 10 7 true (FieldType.object "ErrorSlices$Output") := ⟨RX10, TX10, 14, tyX10, clX10, by decide, pm_i2 51 rfl rfl, rfl, rfl, fun _ => rfl⟩
theorem fl_X10_78 : pm_fl "ErrorSlices" 78 10 8 true (FieldType.object "ErrorSlices$TypeWriter") := ⟨RX10, TX10, 14, tyX10, clX10, by decide, pm_i2 52 rfl rfl, rfl, rfl, fun _ => rfl⟩
theorem fl_X10_82 : pm_fl "ErrorSlices" 82 10 9 true (FieldType.array FieldType.boolean) := ⟨RX10, TX10, 14, tyX10, clX10, by decide, pm_i2 53 rfl rfl, rfl, rfl, fun _ => rfl⟩
theorem fl_X10_86 : pm_fl "ErrorSlices" 86 10 10 false (FieldType.int) := ⟨RX10, TX10, 14, tyX10, clX10, by decide, pm_i2 54 rfl rfl, rfl, rfl, fun _ => rfl⟩
theorem fl_X10_90 : pm_fl "ErrorSlices" 90 10 11 false (FieldType.int) := ⟨RX10, TX10, 14, tyX10, clX10, by decide, pm_i2 55 rfl rfl, rfl, rfl, fun _ => rfl⟩
theorem fl_X10_93 : pm_fl "ErrorSlices" 93 10 12 false (FieldType.int) := ⟨RX10, TX10, 14, tyX10, clX10, by decide, pm_i2 56 rfl rfl, rfl, rfl, fun _ => rfl⟩
theorem fl_X10_96 : pm_fl "ErrorSlices" 96 10 13 false (FieldType.int) := ⟨RX10, TX10, 14, tyX10, clX10, by decide, pm_i2 57 rfl rfl, rfl, rfl, fun _ => rfl⟩
theorem fl_X11_7 : pm_fl "ErrorSlicesModel" 7 11 0 true (FieldType.array FieldType.byte) := ⟨RX11, TX11, 59, tyX11, clX11, by decide, pm_i5 14 rfl rfl, rfl, rfl, fun _ => rfl⟩
theorem fl_X11_127 : pm_fl "ErrorSlicesModel" 127 11 1 false (FieldType.int) := ⟨RX11, TX11, 59, tyX11, clX11, by decide, pm_i5 15 rfl rfl, rfl, rfl, fun _ => rfl⟩
theorem fl_X11_13 : pm_fl "ErrorSlicesModel" 13 11 2 true (FieldType.array FieldType.byte) := ⟨RX11, TX11, 59, tyX11, clX11, by decide, pm_i5 16 rfl rfl, rfl, rfl, fun _ => rfl⟩
theorem fl_X11_133 : pm_fl "ErrorSlicesModel" 133 11 3 false (FieldType.int) := ⟨RX11, TX11, 59, tyX11, clX11, by decide, pm_i5 17 rfl rfl, rfl, rfl, fun _ => rfl⟩
theorem fl_X11_16 : pm_fl "ErrorSlicesModel" 16 11 4 false (FieldType.int) := ⟨RX11, TX11, 59, tyX11, clX11, by decide, pm_i5 18 rfl rfl, rfl, rfl, fun _ => rfl⟩
theorem fl_X11_130 : pm_fl "ErrorSlicesModel" 130 11 5 false (FieldType.int) := ⟨RX11, TX11, 59, tyX11, clX11, by decide, pm_i5 19 rfl rfl, rfl, rfl, fun _ => rfl⟩
theorem fl_X11_165 : pm_fl "ErrorSlicesModel" 165 11 6 false (FieldType.int) := ⟨RX11, TX11, 59, tyX11, clX11, by decide, pm_i5 20 rfl rfl, rfl, rfl, fun _ => rfl⟩
theorem fl_X11_136 : pm_fl "ErrorSlicesModel" 136 11 7 false (FieldType.int) := ⟨RX11, TX11, 59, tyX11, clX11, by decide, pm_i5 21 rfl rfl, rfl, rfl, fun _ => rfl⟩
theorem fl_X11_20 : pm_fl "ErrorSlicesModel" 20 11 8 true (FieldType.array FieldType.int) := ⟨RX11, TX11, 59, tyX11, clX11, by decide, pm_i5 22 rfl rfl, rfl, rfl, fun _ => rfl⟩
theorem fl_X11_24 : pm_fl "ErrorSlicesModel" 24 11 9 true (FieldType.array FieldType.int) := ⟨RX11, TX11, 59, tyX11, clX11, by decide, pm_i5 23 rfl rfl, rfl, rfl, fun _ => rfl⟩
theorem fl_X11_27 : pm_fl "ErrorSlicesModel" 27 11 10 true (FieldType.array FieldType.int) := ⟨RX11, TX11, 59, tyX11, clX11, by decide, pm_i5 24 rfl rfl, rfl, rfl, fun _ => rfl⟩
theorem fl_X11_183 : pm_fl "ErrorSlicesModel" 183 11 11 false (FieldType.int) := ⟨RX11, TX11, 59, tyX11, clX11, by decide, pm_i5 25 rfl rfl, rfl, rfl, fun _ => rfl⟩
theorem fl_X11_196 : pm_fl "ErrorSlicesModel" 196 11 12 false (FieldType.int) := ⟨RX11, TX11, 59, tyX11, clX11, by decide, pm_i5 26 rfl rfl, rfl, rfl, fun _ => rfl⟩
theorem fl_X11_30 : pm_fl "ErrorSlicesModel" 30 11 13 true (FieldType.array FieldType.int) := ⟨RX11, TX11, 59, tyX11, clX11, by decide, pm_i5 27 rfl rfl, rfl, rfl, fun _ => rfl⟩
theorem fl_X11_33 : pm_fl "ErrorSlicesModel" 33 11 14 true (FieldType.array FieldType.int) := ⟨RX11, TX11, 59, tyX11, clX11, by decide, pm_i5 28 rfl rfl, rfl, rfl, fun _ => rfl⟩
theorem fl_X11_36 : pm_fl "ErrorSlicesModel" 36 11 15 true (FieldType.array FieldType.int) := ⟨RX11, TX11, 59, tyX11, clX11, by decide, pm_i5 29 rfl rfl, rfl, rfl, fun _ => rfl⟩
theorem fl_X11_39 : pm_fl "ErrorSlicesModel" 39 11 16 true (FieldType.array FieldType.int) := ⟨RX11, TX11, 59, tyX11, clX11, by decide, pm_i5 30 rfl rfl, rfl, rfl, fun _ => rfl⟩
theorem fl_X11_42 : pm_fl "ErrorSlicesModel" 42 11 17 true (FieldType.array FieldType.int) := ⟨RX11, TX11, 59, tyX11, clX11, by decide, pm_i5 31 rfl rfl, rfl, rfl, fun _ => rfl⟩
theorem fl_X11_45 : pm_fl "ErrorSlicesModel" 45 11 18 true (FieldType.array FieldType.int) := ⟨RX11, TX11, 59, tyX11, clX11, by decide, pm_i5 32 rfl rfl, rfl, rfl, fun _ => rfl⟩
theorem fl_X11_48 : pm_fl "ErrorSlicesModel" 48 11 19 true (FieldType.array FieldType.int) := ⟨RX11, TX11, 59, tyX11, clX11, by decide, pm_i5 33 rfl rfl, rfl, rfl, fun _ => rfl⟩
theorem fl_X11_51 : pm_fl "ErrorSlicesModel" 51 11 20 true (FieldType.array FieldType.int) := ⟨RX11, TX11, 59, tyX11, clX11, by decide, pm_i5 34 rfl rfl, rfl, rfl, fun _ => rfl⟩
theorem fl_X11_54 : pm_fl "ErrorSlicesModel" 54 11 21 true (FieldType.array FieldType.int) := ⟨RX11, TX11, 59, tyX11, clX11, by decide, pm_i5 35 rfl rfl, rfl, rfl, fun _ => rfl⟩
theorem fl_X11_57 : pm_fl "ErrorSlicesModel" 57 11 22 true (FieldType.array FieldType.int) := ⟨RX11, TX11, 59, tyX11, clX11, by decide, pm_i5 36 rfl rfl, rfl, rfl, fun _ => rfl⟩
theorem fl_X11_199 : pm_fl "ErrorSlicesModel" 199 11 23 false (FieldType.int) := ⟨RX11, TX11, 59, tyX11, clX11, by decide, pm_i5 37 rfl rfl, rfl, rfl, fun _ => rfl⟩
theorem fl_X11_60 : pm_fl "ErrorSlicesModel" 60 11 24 true (FieldType.array FieldType.int) := ⟨RX11, TX11, 59, tyX11, clX11, by decide, pm_i5 38 rfl rfl, rfl, rfl, fun _ => rfl⟩
theorem fl_X11_63 : pm_fl "ErrorSlicesModel" 63 11 25 true (FieldType.array FieldType.int) := ⟨RX11, TX11, 59, tyX11, clX11, by decide, pm_i5 39 rfl rfl, rfl, rfl, fun _ => rfl⟩
theorem fl_X11_66 : pm_fl "ErrorSlicesModel" 66 11 26 true (FieldType.array FieldType.int) := ⟨RX11, TX11, 59, tyX11, clX11, by decide, pm_i5 40 rfl rfl, rfl, rfl, fun _ => rfl⟩
theorem fl_X11_69 : pm_fl "ErrorSlicesModel" 69 11 27 true (FieldType.array FieldType.int) := ⟨RX11, TX11, 59, tyX11, clX11, by decide, pm_i5 41 rfl rfl, rfl, rfl, fun _ => rfl⟩
theorem fl_X11_256 : pm_fl "ErrorSlicesModel" 256 11 28 false (FieldType.int) := ⟨RX11, TX11, 59, tyX11, clX11, by decide, pm_i5 42 rfl rfl, rfl, rfl, fun _ => rfl⟩
theorem fl_X11_72 : pm_fl "ErrorSlicesModel" 72 11 29 true (FieldType.array FieldType.int) := ⟨RX11, TX11, 59, tyX11, clX11, by decide, pm_i5 43 rfl rfl, rfl, rfl, fun _ => rfl⟩
theorem fl_X11_75 : pm_fl "ErrorSlicesModel" 75 11 30 true (FieldType.array FieldType.int) := ⟨RX11, TX11, 59, tyX11, clX11, by decide, pm_i5 44 rfl rfl, rfl, rfl, fun _ => rfl⟩
theorem fl_X11_78 : pm_fl "ErrorSlicesModel" 78 11 31 true (FieldType.array FieldType.int) := ⟨RX11, TX11, 59, tyX11, clX11, by decide, pm_i5 45 rfl rfl, rfl, rfl, fun _ => rfl⟩
theorem fl_X11_253 : pm_fl "ErrorSlicesModel" 253 11 32 false (FieldType.int) := ⟨RX11, TX11, 59, tyX11, clX11, by decide, pm_i5 46 rfl rfl, rfl, rfl, fun _ => rfl⟩
theorem fl_X11_81 : pm_fl "ErrorSlicesModel" 81 11 33 true (FieldType.array FieldType.int) := ⟨RX11, TX11, 59, tyX11, clX11, by decide, pm_i5 47 rfl rfl, rfl, rfl, fun _ => rfl⟩
theorem fl_X11_84 : pm_fl "ErrorSlicesModel" 84 11 34 true (FieldType.array FieldType.int) := ⟨RX11, TX11, 59, tyX11, clX11, by decide, pm_i5 48 rfl rfl, rfl, rfl, fun _ => rfl⟩
theorem fl_X11_87 : pm_fl "ErrorSlicesModel" 87 11 35 true (FieldType.array FieldType.int) := ⟨RX11, TX11, 59, tyX11, clX11, by decide, pm_i5 49 rfl rfl, rfl, rfl, fun _ => rfl⟩
theorem fl_X11_90 : pm_fl "ErrorSlicesModel" 90 11 36 true (FieldType.array FieldType.int) := ⟨RX11, TX11, 59, tyX11, clX11, by decide, pm_i5 50 rfl rfl, rfl, rfl, fun _ => rfl⟩
theorem fl_X11_265 : pm_fl "ErrorSlicesModel" 265 11 37 false (FieldType.int) := ⟨RX11, TX11, 59, tyX11, clX11, by decide, pm_i5 51 rfl rfl, rfl, rfl, fun _ => rfl⟩
theorem fl_X11_93 : pm_fl "ErrorSlicesModel" 93 11 38 true (FieldType.array FieldType.int) := ⟨RX11, TX11, 59, tyX11, clX11, by decide, pm_i5 52 rfl rfl, rfl, rfl, fun _ => rfl⟩
theorem fl_X11_96 : pm_fl "ErrorSlicesModel" 96 11 39 true (FieldType.array FieldType.int) := ⟨RX11, TX11, 59, tyX11, clX11, by decide, pm_i5 53 rfl rfl, rfl, rfl, fun _ => rfl⟩
theorem fl_X11_268 : pm_fl "ErrorSlicesModel" 268 11 40 false (FieldType.int) := ⟨RX11, TX11, 59, tyX11, clX11, by decide, pm_i5 54 rfl rfl, rfl, rfl, fun _ => rfl⟩
theorem fl_X11_271 : pm_fl "ErrorSlicesModel" 271 11 41 false (FieldType.boolean) := ⟨RX11, TX11, 59, tyX11, clX11, by decide, pm_i5 55 rfl rfl, rfl, rfl, fun _ => rfl⟩
theorem fl_X11_99 : pm_fl "ErrorSlicesModel" 99 11 42 true (FieldType.array FieldType.boolean) := ⟨RX11, TX11, 59, tyX11, clX11, by decide, pm_i5 56 rfl rfl, rfl, rfl, fun _ => rfl⟩
theorem fl_X11_103 : pm_fl "ErrorSlicesModel" 103 11 43 true (FieldType.array FieldType.boolean) := ⟨RX11, TX11, 59, tyX11, clX11, by decide, pm_i5 57 rfl rfl, rfl, rfl, fun _ => rfl⟩
theorem fl_X11_106 : pm_fl "ErrorSlicesModel" 106 11 44 true (FieldType.array FieldType.int) := ⟨RX11, TX11, 59, tyX11, clX11, by decide, pm_i5 58 rfl rfl, rfl, rfl, fun _ => rfl⟩
theorem fl_X11_109 : pm_fl "ErrorSlicesModel" 109 11 45 true (FieldType.array FieldType.byte) := ⟨RX11, TX11, 59, tyX11, clX11, by decide, pm_i5 59 rfl rfl, rfl, rfl, fun _ => rfl⟩
theorem fl_X11_304 : pm_fl "ErrorSlicesModel" 304 11 46 false (FieldType.int) := ⟨RX11, TX11, 59, tyX11, clX11, by decide, pm_i5 60 rfl rfl, rfl, rfl, fun _ => rfl⟩
theorem fl_X11_112 : pm_fl "ErrorSlicesModel" 112 11 47 true (FieldType.array FieldType.int) := ⟨RX11, TX11, 59, tyX11, clX11, by decide, pm_i5 61 rfl rfl, rfl, rfl, fun _ => rfl⟩
theorem fl_X11_312 : pm_fl "ErrorSlicesModel" 312 11 48 false (FieldType.int) := ⟨RX11, TX11, 59, tyX11, clX11, by decide, pm_i5 62 rfl rfl, rfl, rfl, fun _ => rfl⟩
theorem fl_X11_340 : pm_fl "ErrorSlicesModel" 340 11 49 false (FieldType.boolean) := ⟨RX11, TX11, 59, tyX11, clX11, by decide, pm_i5 63 rfl rfl, rfl, rfl, fun _ => rfl⟩
theorem fl_X11_179 : pm_fl "ErrorSlicesModel" 179 11 50 false (FieldType.boolean) := ⟨RX11, TX11, 59, tyX11, clX11, by decide, pm_i5 64 rfl rfl, rfl, rfl, fun _ => rfl⟩
theorem fl_X11_115 : pm_fl "ErrorSlicesModel" 115 11 51 true (FieldType.array FieldType.int) := ⟨RX11, TX11, 59, tyX11, clX11, by decide, pm_i5 65 rfl rfl, rfl, rfl, fun _ => rfl⟩
theorem fl_X11_118 : pm_fl "ErrorSlicesModel" 118 11 52 true (FieldType.array FieldType.int) := ⟨RX11, TX11, 59, tyX11, clX11, by decide, pm_i5 66 rfl rfl, rfl, rfl, fun _ => rfl⟩
theorem fl_X11_121 : pm_fl "ErrorSlicesModel" 121 11 53 true (FieldType.array FieldType.int) := ⟨RX11, TX11, 59, tyX11, clX11, by decide, pm_i5 67 rfl rfl, rfl, rfl, fun _ => rfl⟩
theorem fl_X11_124 : pm_fl "ErrorSlicesModel" 124 11 54 true (FieldType.array FieldType.int) := ⟨RX11, TX11, 59, tyX11, clX11, by decide, pm_i5 68 rfl rfl, rfl, rfl, fun _ => rfl⟩
theorem fl_X11_202 : pm_fl "ErrorSlicesModel" 202 11 55 false (FieldType.int) := ⟨RX11, TX11, 59, tyX11, clX11, by decide, pm_i5 69 rfl rfl, rfl, rfl, fun _ => rfl⟩
theorem fl_X11_220 : pm_fl "ErrorSlicesModel" 220 11 56 false (FieldType.int) := ⟨RX11, TX11, 59, tyX11, clX11, by decide, pm_i5 70 rfl rfl, rfl, rfl, fun _ => rfl⟩
theorem fl_X11_280 : pm_fl "ErrorSlicesModel" 280 11 57 false (FieldType.int) := ⟨RX11, TX11, 59, tyX11, clX11, by decide, pm_i5 71 rfl rfl, rfl, rfl, fun _ => rfl⟩
theorem fl_X11_286 : pm_fl "ErrorSlicesModel" 286 11 58 false (FieldType.int) := ⟨RX11, TX11, 59, tyX11, clX11, by decide, pm_i5 72 rfl rfl, rfl, rfl, fun _ => rfl⟩
theorem cd_X0_init : Cond.code me_X0_init.1 me_X0_init.2.1 me_X0_init.2.2.1 me_X0_init.2.2.2 ∈ pm_T := pm_i1 222 rfl rfl
theorem in_X0_init : Cond.initialized me_X0_init.1.cls ∈ pm_T := pm_i1 10 rfl rfl
theorem nd_X0_init : me_X0_init.1.cls ≠ "java/lang/invoke/MethodHandle" ∧ me_X0_init.1.cls ≠ "java/lang/invoke/VarHandle" ∧ (parseMethodDescriptor me_X0_init.1.desc).map (fun d => d.parameters.length) = some 3 := by decide +kernel
theorem iv_X0_init : me_X0_init.1.name = "<init>" ∧ Cond.instanceMethod me_X0_init.1 ∈ pm_T ∧ me_X0_init.2.2.2 = none := ⟨rfl, pm_i1 221 rfl rfl, rfl⟩
theorem cd_X0_allFine : Cond.code me_X0_allFine.1 me_X0_allFine.2.1 me_X0_allFine.2.2.1 me_X0_allFine.2.2.2 ∈ pm_T := pm_i3 235 rfl rfl
theorem in_X0_allFine : Cond.initialized me_X0_allFine.1.cls ∈ pm_T := pm_i1 10 rfl rfl
theorem nd_X0_allFine : me_X0_allFine.1.cls ≠ "java/lang/invoke/MethodHandle" ∧ me_X0_allFine.1.cls ≠ "java/lang/invoke/VarHandle" ∧ (parseMethodDescriptor me_X0_allFine.1.desc).map (fun d => d.parameters.length) = some 0 := by decide +kernel
theorem iv_X0_allFine : Cond.instanceMethod me_X0_allFine.1 ∈ pm_T ∧ Cond.selects me_X0_allFine.1.cls me_X0_allFine.1 me_X0_allFine.1 ∈ pm_T := ⟨pm_i3 233 rfl rfl, pm_i3 234 rfl rfl⟩
theorem cd_X0_cut : Cond.code me_X0_cut.1 me_X0_cut.2.1 me_X0_cut.2.2.1 me_X0_cut.2.2.2 ∈ pm_T := pm_i4 194 rfl rfl
theorem in_X0_cut : Cond.initialized me_X0_cut.1.cls ∈ pm_T := pm_i1 10 rfl rfl
theorem nd_X0_cut : me_X0_cut.1.cls ≠ "java/lang/invoke/MethodHandle" ∧ me_X0_cut.1.cls ≠ "java/lang/invoke/VarHandle" ∧ (parseMethodDescriptor me_X0_cut.1.desc).map (fun d => d.parameters.length) = some 1 := by decide +kernel
theorem iv_X0_cut : Cond.instanceMethod me_X0_cut.1 ∈ pm_T ∧ Cond.selects me_X0_cut.1.cls me_X0_cut.1 me_X0_cut.1 ∈ pm_T := ⟨pm_i4 192 rfl rfl, pm_i4 193 rfl rfl⟩
theorem cd_X0_chooseAll : Cond.code me_X0_chooseAll.1 me_X0_chooseAll.2.1 me_X0_chooseAll.2.2.1 me_X0_chooseAll.2.2.2 ∈ pm_T := pm_i3 239 rfl rfl
theorem in_X0_chooseAll : Cond.initialized me_X0_chooseAll.1.cls ∈ pm_T := pm_i1 10 rfl rfl
theorem nd_X0_chooseAll : me_X0_chooseAll.1.cls ≠ "java/lang/invoke/MethodHandle" ∧ me_X0_chooseAll.1.cls ≠ "java/lang/invoke/VarHandle" ∧ (parseMethodDescriptor me_X0_chooseAll.1.desc).map (fun d => d.parameters.length) = some 0 := by decide +kernel
theorem iv_X0_chooseAll : Cond.instanceMethod me_X0_chooseAll.1 ∈ pm_T ∧ Cond.selects me_X0_chooseAll.1.cls me_X0_chooseAll.1 me_X0_chooseAll.1 ∈ pm_T := ⟨pm_i3 238 rfl rfl, pm_i0 37 rfl rfl⟩
theorem cd_X0_isFine : Cond.code me_X0_isFine.1 me_X0_isFine.2.1 me_X0_isFine.2.2.1 me_X0_isFine.2.2.2 ∈ pm_T := pm_i4 3 rfl rfl
theorem in_X0_isFine : Cond.initialized me_X0_isFine.1.cls ∈ pm_T := pm_i1 10 rfl rfl
theorem nd_X0_isFine : me_X0_isFine.1.cls ≠ "java/lang/invoke/MethodHandle" ∧ me_X0_isFine.1.cls ≠ "java/lang/invoke/VarHandle" ∧ (parseMethodDescriptor me_X0_isFine.1.desc).map (fun d => d.parameters.length) = some 0 := by decide +kernel
theorem iv_X0_isFine : Cond.instanceMethod me_X0_isFine.1 ∈ pm_T ∧ Cond.selects me_X0_isFine.1.cls me_X0_isFine.1 me_X0_isFine.1 ∈ pm_T := ⟨pm_i4 2 rfl rfl, pm_i0 38 rfl rfl⟩
theorem cd_X0_ask : Cond.code me_X0_ask.1 me_X0_ask.2.1 me_X0_ask.2.2.1 me_X0_ask.2.2.2 ∈ pm_T := pm_i4 26 rfl rfl
theorem in_X0_ask : Cond.initialized me_X0_ask.1.cls ∈ pm_T := pm_i1 10 rfl rfl
theorem nd_X0_ask : me_X0_ask.1.cls ≠ "java/lang/invoke/MethodHandle" ∧ me_X0_ask.1.cls ≠ "java/lang/invoke/VarHandle" ∧ (parseMethodDescriptor me_X0_ask.1.desc).map (fun d => d.parameters.length) = some 2 := by decide +kernel
theorem iv_X0_ask : Cond.instanceMethod me_X0_ask.1 ∈ pm_T ∧ Cond.selects me_X0_ask.1.cls me_X0_ask.1 me_X0_ask.1 ∈ pm_T := ⟨pm_i4 25 rfl rfl, pm_i0 40 rfl rfl⟩
theorem cd_X1_init : Cond.code me_X1_init.1 me_X1_init.2.1 me_X1_init.2.2.1 me_X1_init.2.2.2 ∈ pm_T := pm_i1 156 rfl rfl
theorem in_X1_init : Cond.initialized me_X1_init.1.cls ∈ pm_T := pm_i1 8 rfl rfl
theorem nd_X1_init : me_X1_init.1.cls ≠ "java/lang/invoke/MethodHandle" ∧ me_X1_init.1.cls ≠ "java/lang/invoke/VarHandle" ∧ (parseMethodDescriptor me_X1_init.1.desc).map (fun d => d.parameters.length) = some 1 := by decide +kernel
theorem iv_X1_init : me_X1_init.1.name = "<init>" ∧ Cond.instanceMethod me_X1_init.1 ∈ pm_T ∧ me_X1_init.2.2.2 = none := ⟨rfl, pm_i1 155 rfl rfl, rfl⟩
theorem cd_X1_size : Cond.code me_X1_size.1 me_X1_size.2.1 me_X1_size.2.2.1 me_X1_size.2.2.2 ∈ pm_T := pm_i4 20 rfl rfl
theorem in_X1_size : Cond.initialized me_X1_size.1.cls ∈ pm_T := pm_i1 8 rfl rfl
theorem nd_X1_size : me_X1_size.1.cls ≠ "java/lang/invoke/MethodHandle" ∧ me_X1_size.1.cls ≠ "java/lang/invoke/VarHandle" ∧ (parseMethodDescriptor me_X1_size.1.desc).map (fun d => d.parameters.length) = some 0 := by decide +kernel
theorem iv_X1_size : Cond.instanceMethod me_X1_size.1 ∈ pm_T ∧ Cond.selects me_X1_size.1.cls me_X1_size.1 me_X1_size.1 ∈ pm_T := ⟨pm_i4 18 rfl rfl, pm_i4 19 rfl rfl⟩
theorem cd_X1_variables : Cond.code me_X1_variables.1 me_X1_variables.2.1 me_X1_variables.2.2.1 me_X1_variables.2.2.2 ∈ pm_T := pm_i3 231 rfl rfl
theorem in_X1_variables : Cond.initialized me_X1_variables.1.cls ∈ pm_T := pm_i1 8 rfl rfl
theorem nd_X1_variables : me_X1_variables.1.cls ≠ "java/lang/invoke/MethodHandle" ∧ me_X1_variables.1.cls ≠ "java/lang/invoke/VarHandle" ∧ (parseMethodDescriptor me_X1_variables.1.desc).map (fun d => d.parameters.length) = some 0 := by decide +kernel
theorem iv_X1_variables : Cond.instanceMethod me_X1_variables.1 ∈ pm_T ∧ Cond.selects me_X1_variables.1.cls me_X1_variables.1 me_X1_variables.1 ∈ pm_T := ⟨pm_i3 229 rfl rfl, pm_i3 230 rfl rfl⟩
theorem cd_X1_target : Cond.code me_X1_target.1 me_X1_target.2.1 me_X1_target.2.2.1 me_X1_target.2.2.2 ∈ pm_T := pm_i4 34 rfl rfl
theorem in_X1_target : Cond.initialized me_X1_target.1.cls ∈ pm_T := pm_i1 8 rfl rfl
theorem nd_X1_target : me_X1_target.1.cls ≠ "java/lang/invoke/MethodHandle" ∧ me_X1_target.1.cls ≠ "java/lang/invoke/VarHandle" ∧ (parseMethodDescriptor me_X1_target.1.desc).map (fun d => d.parameters.length) = some 1 := by decide +kernel
theorem iv_X1_target : Cond.instanceMethod me_X1_target.1 ∈ pm_T ∧ Cond.selects me_X1_target.1.cls me_X1_target.1 me_X1_target.1 ∈ pm_T := ⟨pm_i4 32 rfl rfl, pm_i4 33 rfl rfl⟩
theorem cd_X1_firstNode : Cond.code me_X1_firstNode.1 me_X1_firstNode.2.1 me_X1_firstNode.2.2.1 me_X1_firstNode.2.2.2 ∈ pm_T := pm_i3 208 rfl rfl
theorem in_X1_firstNode : Cond.initialized me_X1_firstNode.1.cls ∈ pm_T := pm_i1 8 rfl rfl
theorem nd_X1_firstNode : me_X1_firstNode.1.cls ≠ "java/lang/invoke/MethodHandle" ∧ me_X1_firstNode.1.cls ≠ "java/lang/invoke/VarHandle" ∧ (parseMethodDescriptor me_X1_firstNode.1.desc).map (fun d => d.parameters.length) = some 1 := by decide +kernel
theorem iv_X1_firstNode : Cond.instanceMethod me_X1_firstNode.1 ∈ pm_T ∧ Cond.selects me_X1_firstNode.1.cls me_X1_firstNode.1 me_X1_firstNode.1 ∈ pm_T := ⟨pm_i3 206 rfl rfl, pm_i3 207 rfl rfl⟩
theorem cd_X1_endNode : Cond.code me_X1_endNode.1 me_X1_endNode.2.1 me_X1_endNode.2.2.1 me_X1_endNode.2.2.2 ∈ pm_T := pm_i3 191 rfl rfl
theorem in_X1_endNode : Cond.initialized me_X1_endNode.1.cls ∈ pm_T := pm_i1 8 rfl rfl
theorem nd_X1_endNode : me_X1_endNode.1.cls ≠ "java/lang/invoke/MethodHandle" ∧ me_X1_endNode.1.cls ≠ "java/lang/invoke/VarHandle" ∧ (parseMethodDescriptor me_X1_endNode.1.desc).map (fun d => d.parameters.length) = some 1 := by decide +kernel
theorem iv_X1_endNode : Cond.instanceMethod me_X1_endNode.1 ∈ pm_T ∧ Cond.selects me_X1_endNode.1.cls me_X1_endNode.1 me_X1_endNode.1 ∈ pm_T := ⟨pm_i3 189 rfl rfl, pm_i3 190 rfl rfl⟩
theorem cd_X1_variable : Cond.code me_X1_variable.1 me_X1_variable.2.1 me_X1_variable.2.2.1 me_X1_variable.2.2.2 ∈ pm_T := pm_i3 226 rfl rfl
theorem in_X1_variable : Cond.initialized me_X1_variable.1.cls ∈ pm_T := pm_i1 8 rfl rfl
theorem nd_X1_variable : me_X1_variable.1.cls ≠ "java/lang/invoke/MethodHandle" ∧ me_X1_variable.1.cls ≠ "java/lang/invoke/VarHandle" ∧ (parseMethodDescriptor me_X1_variable.1.desc).map (fun d => d.parameters.length) = some 2 := by decide +kernel
theorem iv_X1_variable : Cond.instanceMethod me_X1_variable.1 ∈ pm_T ∧ Cond.selects me_X1_variable.1.cls me_X1_variable.1 me_X1_variable.1 ∈ pm_T := ⟨pm_i3 224 rfl rfl, pm_i3 225 rfl rfl⟩
theorem cd_X1_unfold : Cond.code me_X1_unfold.1 me_X1_unfold.2.1 me_X1_unfold.2.2.1 me_X1_unfold.2.2.2 ∈ pm_T := pm_i3 183 rfl rfl
theorem in_X1_unfold : Cond.initialized me_X1_unfold.1.cls ∈ pm_T := pm_i1 8 rfl rfl
theorem nd_X1_unfold : me_X1_unfold.1.cls ≠ "java/lang/invoke/MethodHandle" ∧ me_X1_unfold.1.cls ≠ "java/lang/invoke/VarHandle" ∧ (parseMethodDescriptor me_X1_unfold.1.desc).map (fun d => d.parameters.length) = some 0 := by decide +kernel
theorem iv_X1_unfold : Cond.instanceMethod me_X1_unfold.1 ∈ pm_T ∧ Cond.selects me_X1_unfold.1.cls me_X1_unfold.1 me_X1_unfold.1 ∈ pm_T := ⟨pm_i3 181 rfl rfl, pm_i3 182 rfl rfl⟩
theorem cd_X1_follow : Cond.code me_X1_follow.1 me_X1_follow.2.1 me_X1_follow.2.2.1 me_X1_follow.2.2.2 ∈ pm_T := pm_i3 213 rfl rfl
theorem in_X1_follow : Cond.initialized me_X1_follow.1.cls ∈ pm_T := pm_i1 8 rfl rfl
theorem nd_X1_follow : me_X1_follow.1.cls ≠ "java/lang/invoke/MethodHandle" ∧ me_X1_follow.1.cls ≠ "java/lang/invoke/VarHandle" ∧ (parseMethodDescriptor me_X1_follow.1.desc).map (fun d => d.parameters.length) = some 2 := by decide +kernel
theorem iv_X1_follow : Cond.instanceMethod me_X1_follow.1 ∈ pm_T ∧ Cond.selects me_X1_follow.1.cls me_X1_follow.1 me_X1_follow.1 ∈ pm_T := ⟨pm_i3 212 rfl rfl, pm_i0 34 rfl rfl⟩
theorem cd_X1_homeOf : Cond.code me_X1_homeOf.1 me_X1_homeOf.2.1 me_X1_homeOf.2.2.1 me_X1_homeOf.2.2.2 ∈ pm_T := pm_i3 218 rfl rfl
theorem in_X1_homeOf : Cond.initialized me_X1_homeOf.1.cls ∈ pm_T := pm_i1 8 rfl rfl
theorem nd_X1_homeOf : me_X1_homeOf.1.cls ≠ "java/lang/invoke/MethodHandle" ∧ me_X1_homeOf.1.cls ≠ "java/lang/invoke/VarHandle" ∧ (parseMethodDescriptor me_X1_homeOf.1.desc).map (fun d => d.parameters.length) = some 2 := by decide +kernel
theorem iv_X1_homeOf : Cond.instanceMethod me_X1_homeOf.1 ∈ pm_T ∧ Cond.selects me_X1_homeOf.1.cls me_X1_homeOf.1 me_X1_homeOf.1 ∈ pm_T := ⟨pm_i3 217 rfl rfl, pm_i0 35 rfl rfl⟩
theorem cd_X1_holds : Cond.code me_X1_holds.1 me_X1_holds.2.1 me_X1_holds.2.2.1 me_X1_holds.2.2.2 ∈ pm_T := pm_i3 222 rfl rfl
theorem in_X1_holds : Cond.initialized me_X1_holds.1.cls ∈ pm_T := pm_i1 8 rfl rfl
theorem nd_X1_holds : me_X1_holds.1.cls ≠ "java/lang/invoke/MethodHandle" ∧ me_X1_holds.1.cls ≠ "java/lang/invoke/VarHandle" ∧ (parseMethodDescriptor me_X1_holds.1.desc).map (fun d => d.parameters.length) = some 2 := by decide +kernel
theorem iv_X1_holds : Cond.instanceMethod me_X1_holds.1 ∈ pm_T ∧ Cond.selects me_X1_holds.1.cls me_X1_holds.1 me_X1_holds.1 ∈ pm_T := ⟨pm_i3 221 rfl rfl, pm_i0 36 rfl rfl⟩
theorem cd_X1_add : Cond.code me_X1_add.1 me_X1_add.2.1 me_X1_add.2.2.1 me_X1_add.2.2.2 ∈ pm_T := pm_i3 187 rfl rfl
theorem in_X1_add : Cond.initialized me_X1_add.1.cls ∈ pm_T := pm_i1 8 rfl rfl
theorem nd_X1_add : me_X1_add.1.cls ≠ "java/lang/invoke/MethodHandle" ∧ me_X1_add.1.cls ≠ "java/lang/invoke/VarHandle" ∧ (parseMethodDescriptor me_X1_add.1.desc).map (fun d => d.parameters.length) = some 2 := by decide +kernel
theorem iv_X1_add : Cond.instanceMethod me_X1_add.1 ∈ pm_T ∧ Cond.selects me_X1_add.1.cls me_X1_add.1 me_X1_add.1 ∈ pm_T := ⟨pm_i3 186 rfl rfl, pm_i0 32 rfl rfl⟩
theorem cd_X1_isCopy : Cond.code me_X1_isCopy.1 me_X1_isCopy.2.1 me_X1_isCopy.2.2.1 me_X1_isCopy.2.2.2 ∈ pm_T := pm_i3 195 rfl rfl
theorem in_X1_isCopy : Cond.initialized me_X1_isCopy.1.cls ∈ pm_T := pm_i1 8 rfl rfl
theorem nd_X1_isCopy : me_X1_isCopy.1.cls ≠ "java/lang/invoke/MethodHandle" ∧ me_X1_isCopy.1.cls ≠ "java/lang/invoke/VarHandle" ∧ (parseMethodDescriptor me_X1_isCopy.1.desc).map (fun d => d.parameters.length) = some 1 := by decide +kernel
theorem iv_X1_isCopy : Cond.instanceMethod me_X1_isCopy.1 ∈ pm_T ∧ Cond.selects me_X1_isCopy.1.cls me_X1_isCopy.1 me_X1_isCopy.1 ∈ pm_T := ⟨pm_i3 194 rfl rfl, pm_i0 33 rfl rfl⟩
theorem cd_X2_init : Cond.code me_X2_init.1 me_X2_init.2.1 me_X2_init.2.2.1 me_X2_init.2.2.2 ∈ pm_T := pm_i1 73 rfl rfl
theorem in_X2_init : Cond.initialized me_X2_init.1.cls ∈ pm_T := pm_i1 5 rfl rfl
theorem nd_X2_init : me_X2_init.1.cls ≠ "java/lang/invoke/MethodHandle" ∧ me_X2_init.1.cls ≠ "java/lang/invoke/VarHandle" ∧ (parseMethodDescriptor me_X2_init.1.desc).map (fun d => d.parameters.length) = some 1 := by decide +kernel
theorem iv_X2_init : me_X2_init.1.name = "<init>" ∧ Cond.instanceMethod me_X2_init.1 ∈ pm_T ∧ me_X2_init.2.2.2 = none := ⟨rfl, pm_i1 72 rfl rfl, rfl⟩
theorem cd_X2_kind : Cond.code me_X2_kind.1 me_X2_kind.2.1 me_X2_kind.2.2.1 me_X2_kind.2.2.2 ∈ pm_T := pm_i3 129 rfl rfl
theorem in_X2_kind : Cond.initialized me_X2_kind.1.cls ∈ pm_T := pm_i1 5 rfl rfl
theorem nd_X2_kind : me_X2_kind.1.cls ≠ "java/lang/invoke/MethodHandle" ∧ me_X2_kind.1.cls ≠ "java/lang/invoke/VarHandle" ∧ (parseMethodDescriptor me_X2_kind.1.desc).map (fun d => d.parameters.length) = some 1 := by decide +kernel
theorem iv_X2_kind : Cond.instanceMethod me_X2_kind.1 ∈ pm_T ∧ Cond.selects me_X2_kind.1.cls me_X2_kind.1 me_X2_kind.1 ∈ pm_T := ⟨pm_i3 127 rfl rfl, pm_i3 128 rfl rfl⟩
theorem cd_X2_first : Cond.code me_X2_first.1 me_X2_first.2.1 me_X2_first.2.2.1 me_X2_first.2.2.2 ∈ pm_T := pm_i3 151 rfl rfl
theorem in_X2_first : Cond.initialized me_X2_first.1.cls ∈ pm_T := pm_i1 5 rfl rfl
theorem nd_X2_first : me_X2_first.1.cls ≠ "java/lang/invoke/MethodHandle" ∧ me_X2_first.1.cls ≠ "java/lang/invoke/VarHandle" ∧ (parseMethodDescriptor me_X2_first.1.desc).map (fun d => d.parameters.length) = some 1 := by decide +kernel
theorem iv_X2_first : Cond.instanceMethod me_X2_first.1 ∈ pm_T ∧ Cond.selects me_X2_first.1.cls me_X2_first.1 me_X2_first.1 ∈ pm_T := ⟨pm_i3 149 rfl rfl, pm_i3 150 rfl rfl⟩
theorem cd_X2_second : Cond.code me_X2_second.1 me_X2_second.2.1 me_X2_second.2.2.1 me_X2_second.2.2.2 ∈ pm_T := pm_i3 156 rfl rfl
theorem in_X2_second : Cond.initialized me_X2_second.1.cls ∈ pm_T := pm_i1 5 rfl rfl
theorem nd_X2_second : me_X2_second.1.cls ≠ "java/lang/invoke/MethodHandle" ∧ me_X2_second.1.cls ≠ "java/lang/invoke/VarHandle" ∧ (parseMethodDescriptor me_X2_second.1.desc).map (fun d => d.parameters.length) = some 1 := by decide +kernel
theorem iv_X2_second : Cond.instanceMethod me_X2_second.1 ∈ pm_T ∧ Cond.selects me_X2_second.1.cls me_X2_second.1 me_X2_second.1 ∈ pm_T := ⟨pm_i3 154 rfl rfl, pm_i3 155 rfl rfl⟩
theorem cd_X2_third : Cond.code me_X2_third.1 me_X2_third.2.1 me_X2_third.2.2.1 me_X2_third.2.2.2 ∈ pm_T := pm_i3 161 rfl rfl
theorem in_X2_third : Cond.initialized me_X2_third.1.cls ∈ pm_T := pm_i1 5 rfl rfl
theorem nd_X2_third : me_X2_third.1.cls ≠ "java/lang/invoke/MethodHandle" ∧ me_X2_third.1.cls ≠ "java/lang/invoke/VarHandle" ∧ (parseMethodDescriptor me_X2_third.1.desc).map (fun d => d.parameters.length) = some 1 := by decide +kernel
theorem iv_X2_third : Cond.instanceMethod me_X2_third.1 ∈ pm_T ∧ Cond.selects me_X2_third.1.cls me_X2_third.1 me_X2_third.1 ∈ pm_T := ⟨pm_i3 159 rfl rfl, pm_i3 160 rfl rfl⟩
theorem cd_X2_meaning : Cond.code me_X2_meaning.1 me_X2_meaning.2.1 me_X2_meaning.2.2.1 me_X2_meaning.2.2.2 ∈ pm_T := pm_i3 166 rfl rfl
theorem in_X2_meaning : Cond.initialized me_X2_meaning.1.cls ∈ pm_T := pm_i1 5 rfl rfl
theorem nd_X2_meaning : me_X2_meaning.1.cls ≠ "java/lang/invoke/MethodHandle" ∧ me_X2_meaning.1.cls ≠ "java/lang/invoke/VarHandle" ∧ (parseMethodDescriptor me_X2_meaning.1.desc).map (fun d => d.parameters.length) = some 1 := by decide +kernel
theorem iv_X2_meaning : Cond.instanceMethod me_X2_meaning.1 ∈ pm_T ∧ Cond.selects me_X2_meaning.1.cls me_X2_meaning.1 me_X2_meaning.1 ∈ pm_T := ⟨pm_i3 164 rfl rfl, pm_i3 165 rfl rfl⟩
theorem cd_X2_begin : Cond.code me_X2_begin.1 me_X2_begin.2.1 me_X2_begin.2.2.1 me_X2_begin.2.2.2 ∈ pm_T := pm_i3 14 rfl rfl
theorem in_X2_begin : Cond.initialized me_X2_begin.1.cls ∈ pm_T := pm_i1 5 rfl rfl
theorem nd_X2_begin : me_X2_begin.1.cls ≠ "java/lang/invoke/MethodHandle" ∧ me_X2_begin.1.cls ≠ "java/lang/invoke/VarHandle" ∧ (parseMethodDescriptor me_X2_begin.1.desc).map (fun d => d.parameters.length) = some 2 := by decide +kernel
theorem iv_X2_begin : Cond.instanceMethod me_X2_begin.1 ∈ pm_T ∧ Cond.selects me_X2_begin.1.cls me_X2_begin.1 me_X2_begin.1 ∈ pm_T := ⟨pm_i3 12 rfl rfl, pm_i3 13 rfl rfl⟩
theorem cd_X2_setFirst : Cond.code me_X2_setFirst.1 me_X2_setFirst.2.1 me_X2_setFirst.2.2.1 me_X2_setFirst.2.2.2 ∈ pm_T := pm_i3 22 rfl rfl
theorem in_X2_setFirst : Cond.initialized me_X2_setFirst.1.cls ∈ pm_T := pm_i1 5 rfl rfl
theorem nd_X2_setFirst : me_X2_setFirst.1.cls ≠ "java/lang/invoke/MethodHandle" ∧ me_X2_setFirst.1.cls ≠ "java/lang/invoke/VarHandle" ∧ (parseMethodDescriptor me_X2_setFirst.1.desc).map (fun d => d.parameters.length) = some 2 := by decide +kernel
theorem iv_X2_setFirst : Cond.instanceMethod me_X2_setFirst.1 ∈ pm_T ∧ Cond.selects me_X2_setFirst.1.cls me_X2_setFirst.1 me_X2_setFirst.1 ∈ pm_T := ⟨pm_i3 20 rfl rfl, pm_i3 21 rfl rfl⟩
theorem cd_X2_setSecond : Cond.code me_X2_setSecond.1 me_X2_setSecond.2.1 me_X2_setSecond.2.2.1 me_X2_setSecond.2.2.2 ∈ pm_T := pm_i3 46 rfl rfl
theorem in_X2_setSecond : Cond.initialized me_X2_setSecond.1.cls ∈ pm_T := pm_i1 5 rfl rfl
theorem nd_X2_setSecond : me_X2_setSecond.1.cls ≠ "java/lang/invoke/MethodHandle" ∧ me_X2_setSecond.1.cls ≠ "java/lang/invoke/VarHandle" ∧ (parseMethodDescriptor me_X2_setSecond.1.desc).map (fun d => d.parameters.length) = some 2 := by decide +kernel
theorem iv_X2_setSecond : Cond.instanceMethod me_X2_setSecond.1 ∈ pm_T ∧ Cond.selects me_X2_setSecond.1.cls me_X2_setSecond.1 me_X2_setSecond.1 ∈ pm_T := ⟨pm_i3 44 rfl rfl, pm_i3 45 rfl rfl⟩
theorem cd_X2_setThird : Cond.code me_X2_setThird.1 me_X2_setThird.2.1 me_X2_setThird.2.2.1 me_X2_setThird.2.2.2 ∈ pm_T := pm_i3 54 rfl rfl
theorem in_X2_setThird : Cond.initialized me_X2_setThird.1.cls ∈ pm_T := pm_i1 5 rfl rfl
theorem nd_X2_setThird : me_X2_setThird.1.cls ≠ "java/lang/invoke/MethodHandle" ∧ me_X2_setThird.1.cls ≠ "java/lang/invoke/VarHandle" ∧ (parseMethodDescriptor me_X2_setThird.1.desc).map (fun d => d.parameters.length) = some 2 := by decide +kernel
theorem iv_X2_setThird : Cond.instanceMethod me_X2_setThird.1 ∈ pm_T ∧ Cond.selects me_X2_setThird.1.cls me_X2_setThird.1 me_X2_setThird.1 ∈ pm_T := ⟨pm_i3 52 rfl rfl, pm_i3 53 rfl rfl⟩
theorem cd_X2_setMeaning : Cond.code me_X2_setMeaning.1 me_X2_setMeaning.2.1 me_X2_setMeaning.2.2.1 me_X2_setMeaning.2.2.2 ∈ pm_T := pm_i3 89 rfl rfl
theorem in_X2_setMeaning : Cond.initialized me_X2_setMeaning.1.cls ∈ pm_T := pm_i1 5 rfl rfl
theorem nd_X2_setMeaning : me_X2_setMeaning.1.cls ≠ "java/lang/invoke/MethodHandle" ∧ me_X2_setMeaning.1.cls ≠ "java/lang/invoke/VarHandle" ∧ (parseMethodDescriptor me_X2_setMeaning.1.desc).map (fun d => d.parameters.length) = some 2 := by decide +kernel
theorem iv_X2_setMeaning : Cond.instanceMethod me_X2_setMeaning.1 ∈ pm_T ∧ Cond.selects me_X2_setMeaning.1.cls me_X2_setMeaning.1 me_X2_setMeaning.1 ∈ pm_T := ⟨pm_i3 87 rfl rfl, pm_i3 88 rfl rfl⟩
theorem cd_X2_holds : Cond.code me_X2_holds.1 me_X2_holds.2.1 me_X2_holds.2.2.1 me_X2_holds.2.2.2 ∈ pm_T := pm_i3 18 rfl rfl
theorem in_X2_holds : Cond.initialized me_X2_holds.1.cls ∈ pm_T := pm_i1 5 rfl rfl
theorem nd_X2_holds : me_X2_holds.1.cls ≠ "java/lang/invoke/MethodHandle" ∧ me_X2_holds.1.cls ≠ "java/lang/invoke/VarHandle" ∧ (parseMethodDescriptor me_X2_holds.1.desc).map (fun d => d.parameters.length) = some 1 := by decide +kernel
theorem iv_X2_holds : Cond.instanceMethod me_X2_holds.1 ∈ pm_T ∧ Cond.selects me_X2_holds.1.cls me_X2_holds.1 me_X2_holds.1 ∈ pm_T := ⟨pm_i3 17 rfl rfl, pm_i0 14 rfl rfl⟩
theorem cd_X3_init : Cond.code me_X3_init.1 me_X3_init.2.1 me_X3_init.2.2.1 me_X3_init.2.2.2 ∈ pm_T := pm_i2 6 rfl rfl
theorem in_X3_init : Cond.initialized me_X3_init.1.cls ∈ pm_T := pm_i1 11 rfl rfl
theorem nd_X3_init : me_X3_init.1.cls ≠ "java/lang/invoke/MethodHandle" ∧ me_X3_init.1.cls ≠ "java/lang/invoke/VarHandle" ∧ (parseMethodDescriptor me_X3_init.1.desc).map (fun d => d.parameters.length) = some 0 := by decide +kernel
theorem iv_X3_init : me_X3_init.1.name = "<init>" ∧ Cond.instanceMethod me_X3_init.1 ∈ pm_T ∧ me_X3_init.2.2.2 = none := ⟨rfl, pm_i2 5 rfl rfl, rfl⟩
theorem cd_X3_clear : Cond.code me_X3_clear.1 me_X3_clear.2.1 me_X3_clear.2.2.1 me_X3_clear.2.2.2 ∈ pm_T := pm_i2 110 rfl rfl
theorem in_X3_clear : Cond.initialized me_X3_clear.1.cls ∈ pm_T := pm_i1 11 rfl rfl
theorem nd_X3_clear : me_X3_clear.1.cls ≠ "java/lang/invoke/MethodHandle" ∧ me_X3_clear.1.cls ≠ "java/lang/invoke/VarHandle" ∧ (parseMethodDescriptor me_X3_clear.1.desc).map (fun d => d.parameters.length) = some 0 := by decide +kernel
theorem iv_X3_clear : Cond.instanceMethod me_X3_clear.1 ∈ pm_T ∧ Cond.selects me_X3_clear.1.cls me_X3_clear.1 me_X3_clear.1 ∈ pm_T := ⟨pm_i2 108 rfl rfl, pm_i2 109 rfl rfl⟩
theorem cd_X3_left : Cond.code me_X3_left.1 me_X3_left.2.1 me_X3_left.2.2.1 me_X3_left.2.2.2 ∈ pm_T := pm_i5 1 rfl rfl
theorem in_X3_left : Cond.initialized me_X3_left.1.cls ∈ pm_T := pm_i1 11 rfl rfl
theorem nd_X3_left : me_X3_left.1.cls ≠ "java/lang/invoke/MethodHandle" ∧ me_X3_left.1.cls ≠ "java/lang/invoke/VarHandle" ∧ (parseMethodDescriptor me_X3_left.1.desc).map (fun d => d.parameters.length) = some 0 := by decide +kernel
theorem iv_X3_left : Cond.instanceMethod me_X3_left.1 ∈ pm_T ∧ Cond.selects me_X3_left.1.cls me_X3_left.1 me_X3_left.1 ∈ pm_T := ⟨pm_i4 239 rfl rfl, pm_i5 0 rfl rfl⟩
theorem cd_X3_isFull : Cond.code me_X3_isFull.1 me_X3_isFull.2.1 me_X3_isFull.2.2.1 me_X3_isFull.2.2.2 ∈ pm_T := pm_i4 141 rfl rfl
theorem in_X3_isFull : Cond.initialized me_X3_isFull.1.cls ∈ pm_T := pm_i1 11 rfl rfl
theorem nd_X3_isFull : me_X3_isFull.1.cls ≠ "java/lang/invoke/MethodHandle" ∧ me_X3_isFull.1.cls ≠ "java/lang/invoke/VarHandle" ∧ (parseMethodDescriptor me_X3_isFull.1.desc).map (fun d => d.parameters.length) = some 0 := by decide +kernel
theorem iv_X3_isFull : Cond.instanceMethod me_X3_isFull.1 ∈ pm_T ∧ Cond.selects me_X3_isFull.1.cls me_X3_isFull.1 me_X3_isFull.1 ∈ pm_T := ⟨pm_i4 139 rfl rfl, pm_i4 140 rfl rfl⟩
theorem cd_X3_add : Cond.code me_X3_add.1 me_X3_add.2.1 me_X3_add.2.2.1 me_X3_add.2.2.2 ∈ pm_T := pm_i4 167 rfl rfl
theorem in_X3_add : Cond.initialized me_X3_add.1.cls ∈ pm_T := pm_i1 11 rfl rfl
theorem nd_X3_add : me_X3_add.1.cls ≠ "java/lang/invoke/MethodHandle" ∧ me_X3_add.1.cls ≠ "java/lang/invoke/VarHandle" ∧ (parseMethodDescriptor me_X3_add.1.desc).map (fun d => d.parameters.length) = some 1 := by decide +kernel
theorem iv_X3_add : Cond.instanceMethod me_X3_add.1 ∈ pm_T ∧ Cond.selects me_X3_add.1.cls me_X3_add.1 me_X3_add.1 ∈ pm_T := ⟨pm_i4 165 rfl rfl, pm_i4 166 rfl rfl⟩
theorem cd_X3_addText : Cond.code me_X3_addText.1 me_X3_addText.2.1 me_X3_addText.2.2.1 me_X3_addText.2.2.2 ∈ pm_T := pm_i4 161 rfl rfl
theorem in_X3_addText : Cond.initialized me_X3_addText.1.cls ∈ pm_T := pm_i1 11 rfl rfl
theorem nd_X3_addText : me_X3_addText.1.cls ≠ "java/lang/invoke/MethodHandle" ∧ me_X3_addText.1.cls ≠ "java/lang/invoke/VarHandle" ∧ (parseMethodDescriptor me_X3_addText.1.desc).map (fun d => d.parameters.length) = some 1 := by decide +kernel
theorem iv_X3_addText : Cond.instanceMethod me_X3_addText.1 ∈ pm_T ∧ Cond.selects me_X3_addText.1.cls me_X3_addText.1 me_X3_addText.1 ∈ pm_T := ⟨pm_i4 159 rfl rfl, pm_i4 160 rfl rfl⟩
theorem cd_X3_addNumber : Cond.code me_X3_addNumber.1 me_X3_addNumber.2.1 me_X3_addNumber.2.2.1 me_X3_addNumber.2.2.2 ∈ pm_T := pm_i4 190 rfl rfl
theorem in_X3_addNumber : Cond.initialized me_X3_addNumber.1.cls ∈ pm_T := pm_i1 11 rfl rfl
theorem nd_X3_addNumber : me_X3_addNumber.1.cls ≠ "java/lang/invoke/MethodHandle" ∧ me_X3_addNumber.1.cls ≠ "java/lang/invoke/VarHandle" ∧ (parseMethodDescriptor me_X3_addNumber.1.desc).map (fun d => d.parameters.length) = some 1 := by decide +kernel
theorem iv_X3_addNumber : Cond.instanceMethod me_X3_addNumber.1 ∈ pm_T ∧ Cond.selects me_X3_addNumber.1.cls me_X3_addNumber.1 me_X3_addNumber.1 ∈ pm_T := ⟨pm_i4 188 rfl rfl, pm_i4 189 rfl rfl⟩
theorem cd_X3_take : Cond.code me_X3_take.1 me_X3_take.2.1 me_X3_take.2.2.1 me_X3_take.2.2.2 ∈ pm_T := pm_i4 237 rfl rfl
theorem in_X3_take : Cond.initialized me_X3_take.1.cls ∈ pm_T := pm_i1 11 rfl rfl
theorem nd_X3_take : me_X3_take.1.cls ≠ "java/lang/invoke/MethodHandle" ∧ me_X3_take.1.cls ≠ "java/lang/invoke/VarHandle" ∧ (parseMethodDescriptor me_X3_take.1.desc).map (fun d => d.parameters.length) = some 0 := by decide +kernel
theorem iv_X3_take : Cond.instanceMethod me_X3_take.1 ∈ pm_T ∧ Cond.selects me_X3_take.1.cls me_X3_take.1 me_X3_take.1 ∈ pm_T := ⟨pm_i4 235 rfl rfl, pm_i4 236 rfl rfl⟩
theorem cd_X4_init : Cond.code me_X4_init.1 me_X4_init.2.1 me_X4_init.2.2.1 me_X4_init.2.2.2 ∈ pm_T := pm_i1 67 rfl rfl
theorem in_X4_init : Cond.initialized me_X4_init.1.cls ∈ pm_T := pm_i1 4 rfl rfl
theorem nd_X4_init : me_X4_init.1.cls ≠ "java/lang/invoke/MethodHandle" ∧ me_X4_init.1.cls ≠ "java/lang/invoke/VarHandle" ∧ (parseMethodDescriptor me_X4_init.1.desc).map (fun d => d.parameters.length) = some 1 := by decide +kernel
theorem iv_X4_init : me_X4_init.1.name = "<init>" ∧ Cond.instanceMethod me_X4_init.1 ∈ pm_T ∧ me_X4_init.2.2.2 = none := ⟨rfl, pm_i1 66 rfl rfl, rfl⟩
theorem cd_X4_parse : Cond.code me_X4_parse.1 me_X4_parse.2.1 me_X4_parse.2.2.1 me_X4_parse.2.2.2 ∈ pm_T := pm_i2 222 rfl rfl
theorem in_X4_parse : Cond.initialized me_X4_parse.1.cls ∈ pm_T := pm_i1 4 rfl rfl
theorem nd_X4_parse : me_X4_parse.1.cls ≠ "java/lang/invoke/MethodHandle" ∧ me_X4_parse.1.cls ≠ "java/lang/invoke/VarHandle" ∧ (parseMethodDescriptor me_X4_parse.1.desc).map (fun d => d.parameters.length) = some 0 := by decide +kernel
theorem iv_X4_parse : Cond.instanceMethod me_X4_parse.1 ∈ pm_T ∧ Cond.selects me_X4_parse.1.cls me_X4_parse.1 me_X4_parse.1 ∈ pm_T := ⟨pm_i2 220 rfl rfl, pm_i2 221 rfl rfl⟩
theorem cd_X4_refusedToken : Cond.code me_X4_refusedToken.1 me_X4_refusedToken.2.1 me_X4_refusedToken.2.2.1 me_X4_refusedToken.2.2.2 ∈ pm_T := pm_i3 104 rfl rfl
theorem in_X4_refusedToken : Cond.initialized me_X4_refusedToken.1.cls ∈ pm_T := pm_i1 4 rfl rfl
theorem nd_X4_refusedToken : me_X4_refusedToken.1.cls ≠ "java/lang/invoke/MethodHandle" ∧ me_X4_refusedToken.1.cls ≠ "java/lang/invoke/VarHandle" ∧ (parseMethodDescriptor me_X4_refusedToken.1.desc).map (fun d => d.parameters.length) = some 0 := by decide +kernel
theorem iv_X4_refusedToken : Cond.instanceMethod me_X4_refusedToken.1 ∈ pm_T ∧ Cond.selects me_X4_refusedToken.1.cls me_X4_refusedToken.1 me_X4_refusedToken.1 ∈ pm_T := ⟨pm_i3 102 rfl rfl, pm_i3 103 rfl rfl⟩
theorem cd_X4_unknownName : Cond.code me_X4_unknownName.1 me_X4_unknownName.2.1 me_X4_unknownName.2.2.1 me_X4_unknownName.2.2.2 ∈ pm_T := pm_i3 179 rfl rfl
theorem in_X4_unknownName : Cond.initialized me_X4_unknownName.1.cls ∈ pm_T := pm_i1 4 rfl rfl
theorem nd_X4_unknownName : me_X4_unknownName.1.cls ≠ "java/lang/invoke/MethodHandle" ∧ me_X4_unknownName.1.cls ≠ "java/lang/invoke/VarHandle" ∧ (parseMethodDescriptor me_X4_unknownName.1.desc).map (fun d => d.parameters.length) = some 0 := by decide +kernel
theorem iv_X4_unknownName : Cond.instanceMethod me_X4_unknownName.1 ∈ pm_T ∧ Cond.selects me_X4_unknownName.1.cls me_X4_unknownName.1 me_X4_unknownName.1 ∈ pm_T := ⟨pm_i3 177 rfl rfl, pm_i3 178 rfl rfl⟩
theorem cd_X4_root : Cond.code me_X4_root.1 me_X4_root.2.1 me_X4_root.2.2.1 me_X4_root.2.2.2 ∈ pm_T := pm_i3 143 rfl rfl
theorem in_X4_root : Cond.initialized me_X4_root.1.cls ∈ pm_T := pm_i1 4 rfl rfl
theorem nd_X4_root : me_X4_root.1.cls ≠ "java/lang/invoke/MethodHandle" ∧ me_X4_root.1.cls ≠ "java/lang/invoke/VarHandle" ∧ (parseMethodDescriptor me_X4_root.1.desc).map (fun d => d.parameters.length) = some 0 := by decide +kernel
theorem iv_X4_root : Cond.instanceMethod me_X4_root.1 ∈ pm_T ∧ Cond.selects me_X4_root.1.cls me_X4_root.1 me_X4_root.1 ∈ pm_T := ⟨pm_i3 141 rfl rfl, pm_i3 142 rfl rfl⟩
theorem cd_X4_drafts : Cond.code me_X4_drafts.1 me_X4_drafts.2.1 me_X4_drafts.2.2.1 me_X4_drafts.2.2.2 ∈ pm_T := pm_i3 125 rfl rfl
theorem in_X4_drafts : Cond.initialized me_X4_drafts.1.cls ∈ pm_T := pm_i1 4 rfl rfl
theorem nd_X4_drafts : me_X4_drafts.1.cls ≠ "java/lang/invoke/MethodHandle" ∧ me_X4_drafts.1.cls ≠ "java/lang/invoke/VarHandle" ∧ (parseMethodDescriptor me_X4_drafts.1.desc).map (fun d => d.parameters.length) = some 0 := by decide +kernel
theorem iv_X4_drafts : Cond.instanceMethod me_X4_drafts.1 ∈ pm_T ∧ Cond.selects me_X4_drafts.1.cls me_X4_drafts.1 me_X4_drafts.1 ∈ pm_T := ⟨pm_i3 123 rfl rfl, pm_i3 124 rfl rfl⟩
theorem cd_X4_owner : Cond.code me_X4_owner.1 me_X4_owner.2.1 me_X4_owner.2.2.1 me_X4_owner.2.2.2 ∈ pm_T := pm_i3 121 rfl rfl
theorem in_X4_owner : Cond.initialized me_X4_owner.1.cls ∈ pm_T := pm_i1 4 rfl rfl
theorem nd_X4_owner : me_X4_owner.1.cls ≠ "java/lang/invoke/MethodHandle" ∧ me_X4_owner.1.cls ≠ "java/lang/invoke/VarHandle" ∧ (parseMethodDescriptor me_X4_owner.1.desc).map (fun d => d.parameters.length) = some 1 := by decide +kernel
theorem iv_X4_owner : Cond.instanceMethod me_X4_owner.1 ∈ pm_T ∧ Cond.selects me_X4_owner.1.cls me_X4_owner.1 me_X4_owner.1 ∈ pm_T := ⟨pm_i3 119 rfl rfl, pm_i3 120 rfl rfl⟩
theorem cd_X4_isPlace : Cond.code me_X4_isPlace.1 me_X4_isPlace.2.1 me_X4_isPlace.2.2.1 me_X4_isPlace.2.2.2 ∈ pm_T := pm_i3 100 rfl rfl
theorem in_X4_isPlace : Cond.initialized me_X4_isPlace.1.cls ∈ pm_T := pm_i1 4 rfl rfl
theorem nd_X4_isPlace : me_X4_isPlace.1.cls ≠ "java/lang/invoke/MethodHandle" ∧ me_X4_isPlace.1.cls ≠ "java/lang/invoke/VarHandle" ∧ (parseMethodDescriptor me_X4_isPlace.1.desc).map (fun d => d.parameters.length) = some 1 := by decide +kernel
theorem iv_X4_isPlace : Cond.static me_X4_isPlace.1 ∈ pm_T := pm_i3 99 rfl rfl
theorem cd_X4_current : Cond.code me_X4_current.1 me_X4_current.2.1 me_X4_current.2.2.1 me_X4_current.2.2.2 ∈ pm_T := pm_i2 234 rfl rfl
theorem in_X4_current : Cond.initialized me_X4_current.1.cls ∈ pm_T := pm_i1 4 rfl rfl
theorem nd_X4_current : me_X4_current.1.cls ≠ "java/lang/invoke/MethodHandle" ∧ me_X4_current.1.cls ≠ "java/lang/invoke/VarHandle" ∧ (parseMethodDescriptor me_X4_current.1.desc).map (fun d => d.parameters.length) = some 0 := by decide +kernel
theorem iv_X4_current : Cond.instanceMethod me_X4_current.1 ∈ pm_T ∧ Cond.selects me_X4_current.1.cls me_X4_current.1 me_X4_current.1 ∈ pm_T := ⟨pm_i2 233 rfl rfl, pm_i0 10 rfl rfl⟩
theorem cd_X4_refuse : Cond.code me_X4_refuse.1 me_X4_refuse.2.1 me_X4_refuse.2.2.1 me_X4_refuse.2.2.2 ∈ pm_T := pm_i2 230 rfl rfl
theorem in_X4_refuse : Cond.initialized me_X4_refuse.1.cls ∈ pm_T := pm_i1 4 rfl rfl
theorem nd_X4_refuse : me_X4_refuse.1.cls ≠ "java/lang/invoke/MethodHandle" ∧ me_X4_refuse.1.cls ≠ "java/lang/invoke/VarHandle" ∧ (parseMethodDescriptor me_X4_refuse.1.desc).map (fun d => d.parameters.length) = some 0 := by decide +kernel
theorem iv_X4_refuse : Cond.instanceMethod me_X4_refuse.1 ∈ pm_T ∧ Cond.selects me_X4_refuse.1.cls me_X4_refuse.1 me_X4_refuse.1 ∈ pm_T := ⟨pm_i2 229 rfl rfl, pm_i0 9 rfl rfl⟩
theorem cd_X4_take : Cond.code me_X4_take.1 me_X4_take.2.1 me_X4_take.2.2.1 me_X4_take.2.2.2 ∈ pm_T := pm_i3 26 rfl rfl
theorem in_X4_take : Cond.initialized me_X4_take.1.cls ∈ pm_T := pm_i1 4 rfl rfl
theorem nd_X4_take : me_X4_take.1.cls ≠ "java/lang/invoke/MethodHandle" ∧ me_X4_take.1.cls ≠ "java/lang/invoke/VarHandle" ∧ (parseMethodDescriptor me_X4_take.1.desc).map (fun d => d.parameters.length) = some 1 := by decide +kernel
theorem iv_X4_take : Cond.instanceMethod me_X4_take.1 ∈ pm_T ∧ Cond.selects me_X4_take.1.cls me_X4_take.1 me_X4_take.1 ∈ pm_T := ⟨pm_i3 25 rfl rfl, pm_i0 15 rfl rfl⟩
theorem cd_X4_expect : Cond.code me_X4_expect.1 me_X4_expect.2.1 me_X4_expect.2.2.1 me_X4_expect.2.2.2 ∈ pm_T := pm_i3 34 rfl rfl
theorem in_X4_expect : Cond.initialized me_X4_expect.1.cls ∈ pm_T := pm_i1 4 rfl rfl
theorem nd_X4_expect : me_X4_expect.1.cls ≠ "java/lang/invoke/MethodHandle" ∧ me_X4_expect.1.cls ≠ "java/lang/invoke/VarHandle" ∧ (parseMethodDescriptor me_X4_expect.1.desc).map (fun d => d.parameters.length) = some 2 := by decide +kernel
theorem iv_X4_expect : Cond.instanceMethod me_X4_expect.1 ∈ pm_T ∧ Cond.selects me_X4_expect.1.cls me_X4_expect.1 me_X4_expect.1 ∈ pm_T := ⟨pm_i3 33 rfl rfl, pm_i0 16 rfl rfl⟩
theorem cd_X4_countNode : Cond.code me_X4_countNode.1 me_X4_countNode.2.1 me_X4_countNode.2.2.1 me_X4_countNode.2.2.2 ∈ pm_T := pm_i3 10 rfl rfl
theorem in_X4_countNode : Cond.initialized me_X4_countNode.1.cls ∈ pm_T := pm_i1 4 rfl rfl
theorem nd_X4_countNode : me_X4_countNode.1.cls ≠ "java/lang/invoke/MethodHandle" ∧ me_X4_countNode.1.cls ≠ "java/lang/invoke/VarHandle" ∧ (parseMethodDescriptor me_X4_countNode.1.desc).map (fun d => d.parameters.length) = some 0 := by decide +kernel
theorem iv_X4_countNode : Cond.instanceMethod me_X4_countNode.1 ∈ pm_T ∧ Cond.selects me_X4_countNode.1.cls me_X4_countNode.1 me_X4_countNode.1 ∈ pm_T := ⟨pm_i3 9 rfl rfl, pm_i0 13 rfl rfl⟩
theorem cd_X4_beginNode : Cond.code me_X4_beginNode.1 me_X4_beginNode.2.1 me_X4_beginNode.2.2.1 me_X4_beginNode.2.2.2 ∈ pm_T := pm_i3 6 rfl rfl
theorem in_X4_beginNode : Cond.initialized me_X4_beginNode.1.cls ∈ pm_T := pm_i1 4 rfl rfl
theorem nd_X4_beginNode : me_X4_beginNode.1.cls ≠ "java/lang/invoke/MethodHandle" ∧ me_X4_beginNode.1.cls ≠ "java/lang/invoke/VarHandle" ∧ (parseMethodDescriptor me_X4_beginNode.1.desc).map (fun d => d.parameters.length) = some 2 := by decide +kernel
theorem iv_X4_beginNode : Cond.instanceMethod me_X4_beginNode.1 ∈ pm_T ∧ Cond.selects me_X4_beginNode.1.cls me_X4_beginNode.1 me_X4_beginNode.1 ∈ pm_T := ⟨pm_i3 5 rfl rfl, pm_i0 12 rfl rfl⟩
theorem cd_X4_expression : Cond.code me_X4_expression.1 me_X4_expression.2.1 me_X4_expression.2.2.1 me_X4_expression.2.2.2 ∈ pm_T := pm_i2 226 rfl rfl
theorem in_X4_expression : Cond.initialized me_X4_expression.1.cls ∈ pm_T := pm_i1 4 rfl rfl
theorem nd_X4_expression : me_X4_expression.1.cls ≠ "java/lang/invoke/MethodHandle" ∧ me_X4_expression.1.cls ≠ "java/lang/invoke/VarHandle" ∧ (parseMethodDescriptor me_X4_expression.1.desc).map (fun d => d.parameters.length) = some 1 := by decide +kernel
theorem iv_X4_expression : Cond.instanceMethod me_X4_expression.1 ∈ pm_T ∧ Cond.selects me_X4_expression.1.cls me_X4_expression.1 me_X4_expression.1 ∈ pm_T := ⟨pm_i2 225 rfl rfl, pm_i0 8 rfl rfl⟩
theorem cd_X4_function : Cond.code me_X4_function.1 me_X4_function.2.1 me_X4_function.2.2.1 me_X4_function.2.2.2 ∈ pm_T := pm_i3 2 rfl rfl
theorem in_X4_function : Cond.initialized me_X4_function.1.cls ∈ pm_T := pm_i1 4 rfl rfl
theorem nd_X4_function : me_X4_function.1.cls ≠ "java/lang/invoke/MethodHandle" ∧ me_X4_function.1.cls ≠ "java/lang/invoke/VarHandle" ∧ (parseMethodDescriptor me_X4_function.1.desc).map (fun d => d.parameters.length) = some 1 := by decide +kernel
theorem iv_X4_function : Cond.instanceMethod me_X4_function.1 ∈ pm_T ∧ Cond.selects me_X4_function.1.cls me_X4_function.1 me_X4_function.1 ∈ pm_T := ⟨pm_i3 1 rfl rfl, pm_i0 11 rfl rfl⟩
theorem cd_X4_let : Cond.code me_X4_let.1 me_X4_let.2.1 me_X4_let.2.2.1 me_X4_let.2.2.2 ∈ pm_T := pm_i3 42 rfl rfl
theorem in_X4_let : Cond.initialized me_X4_let.1.cls ∈ pm_T := pm_i1 4 rfl rfl
theorem nd_X4_let : me_X4_let.1.cls ≠ "java/lang/invoke/MethodHandle" ∧ me_X4_let.1.cls ≠ "java/lang/invoke/VarHandle" ∧ (parseMethodDescriptor me_X4_let.1.desc).map (fun d => d.parameters.length) = some 1 := by decide +kernel
theorem iv_X4_let : Cond.instanceMethod me_X4_let.1 ∈ pm_T ∧ Cond.selects me_X4_let.1.cls me_X4_let.1 me_X4_let.1 ∈ pm_T := ⟨pm_i3 41 rfl rfl, pm_i0 18 rfl rfl⟩
theorem cd_X4_expressionInScope : Cond.code me_X4_expressionInScope.1 me_X4_expressionInScope.2.1 me_X4_expressionInScope.2.2.1 me_X4_expressionInScope.2.2.2 ∈ pm_T := pm_i3 38 rfl rfl
theorem in_X4_expressionInScope : Cond.initialized me_X4_expressionInScope.1.cls ∈ pm_T := pm_i1 4 rfl rfl
theorem nd_X4_expressionInScope : me_X4_expressionInScope.1.cls ≠ "java/lang/invoke/MethodHandle" ∧ me_X4_expressionInScope.1.cls ≠ "java/lang/invoke/VarHandle" ∧ (parseMethodDescriptor me_X4_expressionInScope.1.desc).map (fun d => d.parameters.length) = some 2 := by decide +kernel
theorem iv_X4_expressionInScope : Cond.instanceMethod me_X4_expressionInScope.1 ∈ pm_T ∧ Cond.selects me_X4_expressionInScope.1.cls me_X4_expressionInScope.1 me_X4_expressionInScope.1 ∈ pm_T := ⟨pm_i3 37 rfl rfl, pm_i0 17 rfl rfl⟩
theorem cd_X4_choice : Cond.code me_X4_choice.1 me_X4_choice.2.1 me_X4_choice.2.2.1 me_X4_choice.2.2.2 ∈ pm_T := pm_i3 50 rfl rfl
theorem in_X4_choice : Cond.initialized me_X4_choice.1.cls ∈ pm_T := pm_i1 4 rfl rfl
theorem nd_X4_choice : me_X4_choice.1.cls ≠ "java/lang/invoke/MethodHandle" ∧ me_X4_choice.1.cls ≠ "java/lang/invoke/VarHandle" ∧ (parseMethodDescriptor me_X4_choice.1.desc).map (fun d => d.parameters.length) = some 1 := by decide +kernel
theorem iv_X4_choice : Cond.instanceMethod me_X4_choice.1 ∈ pm_T ∧ Cond.selects me_X4_choice.1.cls me_X4_choice.1 me_X4_choice.1 ∈ pm_T := ⟨pm_i3 49 rfl rfl, pm_i0 19 rfl rfl⟩
theorem cd_X4_comparison : Cond.code me_X4_comparison.1 me_X4_comparison.2.1 me_X4_comparison.2.2.1 me_X4_comparison.2.2.2 ∈ pm_T := pm_i3 58 rfl rfl
theorem in_X4_comparison : Cond.initialized me_X4_comparison.1.cls ∈ pm_T := pm_i1 4 rfl rfl
theorem nd_X4_comparison : me_X4_comparison.1.cls ≠ "java/lang/invoke/MethodHandle" ∧ me_X4_comparison.1.cls ≠ "java/lang/invoke/VarHandle" ∧ (parseMethodDescriptor me_X4_comparison.1.desc).map (fun d => d.parameters.length) = some 1 := by decide +kernel
theorem iv_X4_comparison : Cond.instanceMethod me_X4_comparison.1 ∈ pm_T ∧ Cond.selects me_X4_comparison.1.cls me_X4_comparison.1 me_X4_comparison.1 ∈ pm_T := ⟨pm_i3 57 rfl rfl, pm_i0 20 rfl rfl⟩
theorem cd_X4_sum : Cond.code me_X4_sum.1 me_X4_sum.2.1 me_X4_sum.2.2.1 me_X4_sum.2.2.2 ∈ pm_T := pm_i3 62 rfl rfl
theorem in_X4_sum : Cond.initialized me_X4_sum.1.cls ∈ pm_T := pm_i1 4 rfl rfl
theorem nd_X4_sum : me_X4_sum.1.cls ≠ "java/lang/invoke/MethodHandle" ∧ me_X4_sum.1.cls ≠ "java/lang/invoke/VarHandle" ∧ (parseMethodDescriptor me_X4_sum.1.desc).map (fun d => d.parameters.length) = some 1 := by decide +kernel
theorem iv_X4_sum : Cond.instanceMethod me_X4_sum.1 ∈ pm_T ∧ Cond.selects me_X4_sum.1.cls me_X4_sum.1 me_X4_sum.1 ∈ pm_T := ⟨pm_i3 61 rfl rfl, pm_i0 21 rfl rfl⟩
theorem cd_X4_call : Cond.code me_X4_call.1 me_X4_call.2.1 me_X4_call.2.2.1 me_X4_call.2.2.2 ∈ pm_T := pm_i3 66 rfl rfl
theorem in_X4_call : Cond.initialized me_X4_call.1.cls ∈ pm_T := pm_i1 4 rfl rfl
theorem nd_X4_call : me_X4_call.1.cls ≠ "java/lang/invoke/MethodHandle" ∧ me_X4_call.1.cls ≠ "java/lang/invoke/VarHandle" ∧ (parseMethodDescriptor me_X4_call.1.desc).map (fun d => d.parameters.length) = some 1 := by decide +kernel
theorem iv_X4_call : Cond.instanceMethod me_X4_call.1 ∈ pm_T ∧ Cond.selects me_X4_call.1.cls me_X4_call.1 me_X4_call.1 ∈ pm_T := ⟨pm_i3 65 rfl rfl, pm_i0 22 rfl rfl⟩
theorem cd_X4_atom : Cond.code me_X4_atom.1 me_X4_atom.2.1 me_X4_atom.2.2.1 me_X4_atom.2.2.2 ∈ pm_T := pm_i3 70 rfl rfl
theorem in_X4_atom : Cond.initialized me_X4_atom.1.cls ∈ pm_T := pm_i1 4 rfl rfl
theorem nd_X4_atom : me_X4_atom.1.cls ≠ "java/lang/invoke/MethodHandle" ∧ me_X4_atom.1.cls ≠ "java/lang/invoke/VarHandle" ∧ (parseMethodDescriptor me_X4_atom.1.desc).map (fun d => d.parameters.length) = some 1 := by decide +kernel
theorem iv_X4_atom : Cond.instanceMethod me_X4_atom.1 ∈ pm_T ∧ Cond.selects me_X4_atom.1.cls me_X4_atom.1 me_X4_atom.1 ∈ pm_T := ⟨pm_i3 69 rfl rfl, pm_i0 23 rfl rfl⟩
theorem cd_X4_name : Cond.code me_X4_name.1 me_X4_name.2.1 me_X4_name.2.2.1 me_X4_name.2.2.2 ∈ pm_T := pm_i3 74 rfl rfl
theorem in_X4_name : Cond.initialized me_X4_name.1.cls ∈ pm_T := pm_i1 4 rfl rfl
theorem nd_X4_name : me_X4_name.1.cls ≠ "java/lang/invoke/MethodHandle" ∧ me_X4_name.1.cls ≠ "java/lang/invoke/VarHandle" ∧ (parseMethodDescriptor me_X4_name.1.desc).map (fun d => d.parameters.length) = some 0 := by decide +kernel
theorem iv_X4_name : Cond.instanceMethod me_X4_name.1 ∈ pm_T ∧ Cond.selects me_X4_name.1.cls me_X4_name.1 me_X4_name.1 ∈ pm_T := ⟨pm_i3 73 rfl rfl, pm_i0 24 rfl rfl⟩
theorem cd_X4_binderOf : Cond.code me_X4_binderOf.1 me_X4_binderOf.2.1 me_X4_binderOf.2.2.1 me_X4_binderOf.2.2.2 ∈ pm_T := pm_i3 78 rfl rfl
theorem in_X4_binderOf : Cond.initialized me_X4_binderOf.1.cls ∈ pm_T := pm_i1 4 rfl rfl
theorem nd_X4_binderOf : me_X4_binderOf.1.cls ≠ "java/lang/invoke/MethodHandle" ∧ me_X4_binderOf.1.cls ≠ "java/lang/invoke/VarHandle" ∧ (parseMethodDescriptor me_X4_binderOf.1.desc).map (fun d => d.parameters.length) = some 1 := by decide +kernel
theorem iv_X4_binderOf : Cond.instanceMethod me_X4_binderOf.1 ∈ pm_T ∧ Cond.selects me_X4_binderOf.1.cls me_X4_binderOf.1 me_X4_binderOf.1 ∈ pm_T := ⟨pm_i3 77 rfl rfl, pm_i0 25 rfl rfl⟩
theorem cd_X4_bracketed : Cond.code me_X4_bracketed.1 me_X4_bracketed.2.1 me_X4_bracketed.2.2.1 me_X4_bracketed.2.2.2 ∈ pm_T := pm_i3 93 rfl rfl
theorem in_X4_bracketed : Cond.initialized me_X4_bracketed.1.cls ∈ pm_T := pm_i1 4 rfl rfl
theorem nd_X4_bracketed : me_X4_bracketed.1.cls ≠ "java/lang/invoke/MethodHandle" ∧ me_X4_bracketed.1.cls ≠ "java/lang/invoke/VarHandle" ∧ (parseMethodDescriptor me_X4_bracketed.1.desc).map (fun d => d.parameters.length) = some 1 := by decide +kernel
theorem iv_X4_bracketed : Cond.instanceMethod me_X4_bracketed.1 ∈ pm_T ∧ Cond.selects me_X4_bracketed.1.cls me_X4_bracketed.1 me_X4_bracketed.1 ∈ pm_T := ⟨pm_i3 92 rfl rfl, pm_i0 26 rfl rfl⟩
theorem cd_X4_pair : Cond.code me_X4_pair.1 me_X4_pair.2.1 me_X4_pair.2.2.1 me_X4_pair.2.2.2 ∈ pm_T := pm_i3 97 rfl rfl
theorem in_X4_pair : Cond.initialized me_X4_pair.1.cls ∈ pm_T := pm_i1 4 rfl rfl
theorem nd_X4_pair : me_X4_pair.1.cls ≠ "java/lang/invoke/MethodHandle" ∧ me_X4_pair.1.cls ≠ "java/lang/invoke/VarHandle" ∧ (parseMethodDescriptor me_X4_pair.1.desc).map (fun d => d.parameters.length) = some 3 := by decide +kernel
theorem iv_X4_pair : Cond.instanceMethod me_X4_pair.1 ∈ pm_T ∧ Cond.selects me_X4_pair.1.cls me_X4_pair.1 me_X4_pair.1 ∈ pm_T := ⟨pm_i3 96 rfl rfl, pm_i0 27 rfl rfl⟩
theorem cd_X5_init : Cond.code me_X5_init.1 me_X5_init.2.1 me_X5_init.2.2.1 me_X5_init.2.2.2 ∈ pm_T := pm_i1 30 rfl rfl
theorem in_X5_init : Cond.initialized me_X5_init.1.cls ∈ pm_T := pm_i1 2 rfl rfl
theorem nd_X5_init : me_X5_init.1.cls ≠ "java/lang/invoke/MethodHandle" ∧ me_X5_init.1.cls ≠ "java/lang/invoke/VarHandle" ∧ (parseMethodDescriptor me_X5_init.1.desc).map (fun d => d.parameters.length) = some 0 := by decide +kernel
theorem iv_X5_init : me_X5_init.1.name = "<init>" ∧ Cond.instanceMethod me_X5_init.1 ∈ pm_T ∧ me_X5_init.2.2.2 = none := ⟨rfl, pm_i1 29 rfl rfl, rfl⟩
theorem cd_X5_length : Cond.code me_X5_length.1 me_X5_length.2.1 me_X5_length.2.2.1 me_X5_length.2.2.2 ∈ pm_T := pm_i2 94 rfl rfl
theorem in_X5_length : Cond.initialized me_X5_length.1.cls ∈ pm_T := pm_i1 2 rfl rfl
theorem nd_X5_length : me_X5_length.1.cls ≠ "java/lang/invoke/MethodHandle" ∧ me_X5_length.1.cls ≠ "java/lang/invoke/VarHandle" ∧ (parseMethodDescriptor me_X5_length.1.desc).map (fun d => d.parameters.length) = some 0 := by decide +kernel
theorem iv_X5_length : Cond.instanceMethod me_X5_length.1 ∈ pm_T ∧ Cond.selects me_X5_length.1.cls me_X5_length.1 me_X5_length.1 ∈ pm_T := ⟨pm_i2 92 rfl rfl, pm_i2 93 rfl rfl⟩
theorem cd_X5_clear : Cond.code me_X5_clear.1 me_X5_clear.2.1 me_X5_clear.2.2.1 me_X5_clear.2.2.2 ∈ pm_T := pm_i4 224 rfl rfl
theorem in_X5_clear : Cond.initialized me_X5_clear.1.cls ∈ pm_T := pm_i1 2 rfl rfl
theorem nd_X5_clear : me_X5_clear.1.cls ≠ "java/lang/invoke/MethodHandle" ∧ me_X5_clear.1.cls ≠ "java/lang/invoke/VarHandle" ∧ (parseMethodDescriptor me_X5_clear.1.desc).map (fun d => d.parameters.length) = some 0 := by decide +kernel
theorem iv_X5_clear : Cond.instanceMethod me_X5_clear.1 ∈ pm_T ∧ Cond.selects me_X5_clear.1.cls me_X5_clear.1 me_X5_clear.1 ∈ pm_T := ⟨pm_i4 222 rfl rfl, pm_i4 223 rfl rfl⟩
theorem cd_X5_append : Cond.code me_X5_append.1 me_X5_append.2.1 me_X5_append.2.2.1 me_X5_append.2.2.2 ∈ pm_T := pm_i2 98 rfl rfl
theorem in_X5_append : Cond.initialized me_X5_append.1.cls ∈ pm_T := pm_i1 2 rfl rfl
theorem nd_X5_append : me_X5_append.1.cls ≠ "java/lang/invoke/MethodHandle" ∧ me_X5_append.1.cls ≠ "java/lang/invoke/VarHandle" ∧ (parseMethodDescriptor me_X5_append.1.desc).map (fun d => d.parameters.length) = some 1 := by decide +kernel
theorem iv_X5_append : Cond.instanceMethod me_X5_append.1 ∈ pm_T ∧ Cond.selects me_X5_append.1.cls me_X5_append.1 me_X5_append.1 ∈ pm_T := ⟨pm_i2 96 rfl rfl, pm_i2 97 rfl rfl⟩
theorem cd_X5_at : Cond.code me_X5_at.1 me_X5_at.2.1 me_X5_at.2.2.1 me_X5_at.2.2.2 ∈ pm_T := pm_i2 123 rfl rfl
theorem in_X5_at : Cond.initialized me_X5_at.1.cls ∈ pm_T := pm_i1 2 rfl rfl
theorem nd_X5_at : me_X5_at.1.cls ≠ "java/lang/invoke/MethodHandle" ∧ me_X5_at.1.cls ≠ "java/lang/invoke/VarHandle" ∧ (parseMethodDescriptor me_X5_at.1.desc).map (fun d => d.parameters.length) = some 1 := by decide +kernel
theorem iv_X5_at : Cond.instanceMethod me_X5_at.1 ∈ pm_T ∧ Cond.selects me_X5_at.1.cls me_X5_at.1 me_X5_at.1 ∈ pm_T := ⟨pm_i2 121 rfl rfl, pm_i2 122 rfl rfl⟩
theorem cd_X5_isBlank : Cond.code me_X5_isBlank.1 me_X5_isBlank.2.1 me_X5_isBlank.2.2.1 me_X5_isBlank.2.2.2 ∈ pm_T := pm_i2 119 rfl rfl
theorem in_X5_isBlank : Cond.initialized me_X5_isBlank.1.cls ∈ pm_T := pm_i1 2 rfl rfl
theorem nd_X5_isBlank : me_X5_isBlank.1.cls ≠ "java/lang/invoke/MethodHandle" ∧ me_X5_isBlank.1.cls ≠ "java/lang/invoke/VarHandle" ∧ (parseMethodDescriptor me_X5_isBlank.1.desc).map (fun d => d.parameters.length) = some 1 := by decide +kernel
theorem iv_X5_isBlank : Cond.instanceMethod me_X5_isBlank.1 ∈ pm_T ∧ Cond.selects me_X5_isBlank.1.cls me_X5_isBlank.1 me_X5_isBlank.1 ∈ pm_T := ⟨pm_i2 117 rfl rfl, pm_i2 118 rfl rfl⟩
theorem cd_X5_isLetter : Cond.code me_X5_isLetter.1 me_X5_isLetter.2.1 me_X5_isLetter.2.2.1 me_X5_isLetter.2.2.2 ∈ pm_T := pm_i2 135 rfl rfl
theorem in_X5_isLetter : Cond.initialized me_X5_isLetter.1.cls ∈ pm_T := pm_i1 2 rfl rfl
theorem nd_X5_isLetter : me_X5_isLetter.1.cls ≠ "java/lang/invoke/MethodHandle" ∧ me_X5_isLetter.1.cls ≠ "java/lang/invoke/VarHandle" ∧ (parseMethodDescriptor me_X5_isLetter.1.desc).map (fun d => d.parameters.length) = some 1 := by decide +kernel
theorem iv_X5_isLetter : Cond.instanceMethod me_X5_isLetter.1 ∈ pm_T ∧ Cond.selects me_X5_isLetter.1.cls me_X5_isLetter.1 me_X5_isLetter.1 ∈ pm_T := ⟨pm_i2 133 rfl rfl, pm_i2 134 rfl rfl⟩
theorem cd_X5_isDigit : Cond.code me_X5_isDigit.1 me_X5_isDigit.2.1 me_X5_isDigit.2.2.1 me_X5_isDigit.2.2.2 ∈ pm_T := pm_i2 139 rfl rfl
theorem in_X5_isDigit : Cond.initialized me_X5_isDigit.1.cls ∈ pm_T := pm_i1 2 rfl rfl
theorem nd_X5_isDigit : me_X5_isDigit.1.cls ≠ "java/lang/invoke/MethodHandle" ∧ me_X5_isDigit.1.cls ≠ "java/lang/invoke/VarHandle" ∧ (parseMethodDescriptor me_X5_isDigit.1.desc).map (fun d => d.parameters.length) = some 1 := by decide +kernel
theorem iv_X5_isDigit : Cond.instanceMethod me_X5_isDigit.1 ∈ pm_T ∧ Cond.selects me_X5_isDigit.1.cls me_X5_isDigit.1 me_X5_isDigit.1 ∈ pm_T := ⟨pm_i2 137 rfl rfl, pm_i2 138 rfl rfl⟩
theorem cd_X5_isLetterOrDigit : Cond.code me_X5_isLetterOrDigit.1 me_X5_isLetterOrDigit.2.1 me_X5_isLetterOrDigit.2.2.1 me_X5_isLetterOrDigit.2.2.2 ∈ pm_T := pm_i2 131 rfl rfl
theorem in_X5_isLetterOrDigit : Cond.initialized me_X5_isLetterOrDigit.1.cls ∈ pm_T := pm_i1 2 rfl rfl
theorem nd_X5_isLetterOrDigit : me_X5_isLetterOrDigit.1.cls ≠ "java/lang/invoke/MethodHandle" ∧ me_X5_isLetterOrDigit.1.cls ≠ "java/lang/invoke/VarHandle" ∧ (parseMethodDescriptor me_X5_isLetterOrDigit.1.desc).map (fun d => d.parameters.length) = some 1 := by decide +kernel
theorem iv_X5_isLetterOrDigit : Cond.instanceMethod me_X5_isLetterOrDigit.1 ∈ pm_T ∧ Cond.selects me_X5_isLetterOrDigit.1.cls me_X5_isLetterOrDigit.1 me_X5_isLetterOrDigit.1 ∈ pm_T := ⟨pm_i2 129 rfl rfl, pm_i2 130 rfl rfl⟩
theorem cd_X6_init : Cond.code me_X6_init.1 me_X6_init.2.1 me_X6_init.2.2.1 me_X6_init.2.2.2 ∈ pm_T := pm_i1 44 rfl rfl
theorem in_X6_init : Cond.initialized me_X6_init.1.cls ∈ pm_T := pm_i1 3 rfl rfl
theorem nd_X6_init : me_X6_init.1.cls ≠ "java/lang/invoke/MethodHandle" ∧ me_X6_init.1.cls ≠ "java/lang/invoke/VarHandle" ∧ (parseMethodDescriptor me_X6_init.1.desc).map (fun d => d.parameters.length) = some 1 := by decide +kernel
theorem iv_X6_init : me_X6_init.1.name = "<init>" ∧ Cond.instanceMethod me_X6_init.1 ∈ pm_T ∧ me_X6_init.2.2.2 = none := ⟨rfl, pm_i1 43 rfl rfl, rfl⟩
theorem cd_X6_size : Cond.code me_X6_size.1 me_X6_size.2.1 me_X6_size.2.2.1 me_X6_size.2.2.2 ∈ pm_T := pm_i3 30 rfl rfl
theorem in_X6_size : Cond.initialized me_X6_size.1.cls ∈ pm_T := pm_i1 3 rfl rfl
theorem nd_X6_size : me_X6_size.1.cls ≠ "java/lang/invoke/MethodHandle" ∧ me_X6_size.1.cls ≠ "java/lang/invoke/VarHandle" ∧ (parseMethodDescriptor me_X6_size.1.desc).map (fun d => d.parameters.length) = some 0 := by decide +kernel
theorem iv_X6_size : Cond.instanceMethod me_X6_size.1 ∈ pm_T ∧ Cond.selects me_X6_size.1.cls me_X6_size.1 me_X6_size.1 ∈ pm_T := ⟨pm_i3 28 rfl rfl, pm_i3 29 rfl rfl⟩
theorem cd_X6_kind : Cond.code me_X6_kind.1 me_X6_kind.2.1 me_X6_kind.2.2.1 me_X6_kind.2.2.2 ∈ pm_T := pm_i2 238 rfl rfl
theorem in_X6_kind : Cond.initialized me_X6_kind.1.cls ∈ pm_T := pm_i1 3 rfl rfl
theorem nd_X6_kind : me_X6_kind.1.cls ≠ "java/lang/invoke/MethodHandle" ∧ me_X6_kind.1.cls ≠ "java/lang/invoke/VarHandle" ∧ (parseMethodDescriptor me_X6_kind.1.desc).map (fun d => d.parameters.length) = some 1 := by decide +kernel
theorem iv_X6_kind : Cond.instanceMethod me_X6_kind.1 ∈ pm_T ∧ Cond.selects me_X6_kind.1.cls me_X6_kind.1 me_X6_kind.1 ∈ pm_T := ⟨pm_i2 236 rfl rfl, pm_i2 237 rfl rfl⟩
theorem cd_X6_start : Cond.code me_X6_start.1 me_X6_start.2.1 me_X6_start.2.2.1 me_X6_start.2.2.2 ∈ pm_T := pm_i3 108 rfl rfl
theorem in_X6_start : Cond.initialized me_X6_start.1.cls ∈ pm_T := pm_i1 3 rfl rfl
theorem nd_X6_start : me_X6_start.1.cls ≠ "java/lang/invoke/MethodHandle" ∧ me_X6_start.1.cls ≠ "java/lang/invoke/VarHandle" ∧ (parseMethodDescriptor me_X6_start.1.desc).map (fun d => d.parameters.length) = some 1 := by decide +kernel
theorem iv_X6_start : Cond.instanceMethod me_X6_start.1 ∈ pm_T ∧ Cond.selects me_X6_start.1.cls me_X6_start.1 me_X6_start.1 ∈ pm_T := ⟨pm_i3 106 rfl rfl, pm_i3 107 rfl rfl⟩
theorem cd_X6_end : Cond.code me_X6_end.1 me_X6_end.2.1 me_X6_end.2.2.1 me_X6_end.2.2.2 ∈ pm_T := pm_i4 218 rfl rfl
theorem in_X6_end : Cond.initialized me_X6_end.1.cls ∈ pm_T := pm_i1 3 rfl rfl
theorem nd_X6_end : me_X6_end.1.cls ≠ "java/lang/invoke/MethodHandle" ∧ me_X6_end.1.cls ≠ "java/lang/invoke/VarHandle" ∧ (parseMethodDescriptor me_X6_end.1.desc).map (fun d => d.parameters.length) = some 1 := by decide +kernel
theorem iv_X6_end : Cond.instanceMethod me_X6_end.1 ∈ pm_T ∧ Cond.selects me_X6_end.1.cls me_X6_end.1 me_X6_end.1 ∈ pm_T := ⟨pm_i4 216 rfl rfl, pm_i4 217 rfl rfl⟩
theorem cd_X6_read : Cond.code me_X6_read.1 me_X6_read.2.1 me_X6_read.2.2.1 me_X6_read.2.2.2 ∈ pm_T := pm_i2 114 rfl rfl
theorem in_X6_read : Cond.initialized me_X6_read.1.cls ∈ pm_T := pm_i1 3 rfl rfl
theorem nd_X6_read : me_X6_read.1.cls ≠ "java/lang/invoke/MethodHandle" ∧ me_X6_read.1.cls ≠ "java/lang/invoke/VarHandle" ∧ (parseMethodDescriptor me_X6_read.1.desc).map (fun d => d.parameters.length) = some 0 := by decide +kernel
theorem iv_X6_read : Cond.instanceMethod me_X6_read.1 ∈ pm_T ∧ Cond.selects me_X6_read.1.cls me_X6_read.1 me_X6_read.1 ∈ pm_T := ⟨pm_i2 112 rfl rfl, pm_i2 113 rfl rfl⟩
theorem cd_X6_areSame : Cond.code me_X6_areSame.1 me_X6_areSame.2.1 me_X6_areSame.2.2.1 me_X6_areSame.2.2.2 ∈ pm_T := pm_i3 85 rfl rfl
theorem in_X6_areSame : Cond.initialized me_X6_areSame.1.cls ∈ pm_T := pm_i1 3 rfl rfl
theorem nd_X6_areSame : me_X6_areSame.1.cls ≠ "java/lang/invoke/MethodHandle" ∧ me_X6_areSame.1.cls ≠ "java/lang/invoke/VarHandle" ∧ (parseMethodDescriptor me_X6_areSame.1.desc).map (fun d => d.parameters.length) = some 2 := by decide +kernel
theorem iv_X6_areSame : Cond.instanceMethod me_X6_areSame.1 ∈ pm_T ∧ Cond.selects me_X6_areSame.1.cls me_X6_areSame.1 me_X6_areSame.1 ∈ pm_T := ⟨pm_i3 83 rfl rfl, pm_i3 84 rfl rfl⟩
theorem cd_X6_copyTo : Cond.code me_X6_copyTo.1 me_X6_copyTo.2.1 me_X6_copyTo.2.2.1 me_X6_copyTo.2.2.2 ∈ pm_T := pm_i4 213 rfl rfl
theorem in_X6_copyTo : Cond.initialized me_X6_copyTo.1.cls ∈ pm_T := pm_i1 3 rfl rfl
theorem nd_X6_copyTo : me_X6_copyTo.1.cls ≠ "java/lang/invoke/MethodHandle" ∧ me_X6_copyTo.1.cls ≠ "java/lang/invoke/VarHandle" ∧ (parseMethodDescriptor me_X6_copyTo.1.desc).map (fun d => d.parameters.length) = some 2 := by decide +kernel
theorem iv_X6_copyTo : Cond.instanceMethod me_X6_copyTo.1 ∈ pm_T ∧ Cond.selects me_X6_copyTo.1.cls me_X6_copyTo.1 me_X6_copyTo.1 ∈ pm_T := ⟨pm_i4 211 rfl rfl, pm_i4 212 rfl rfl⟩
theorem cd_X6_add : Cond.code me_X6_add.1 me_X6_add.2.1 me_X6_add.2.2.1 me_X6_add.2.2.2 ∈ pm_T := pm_i2 144 rfl rfl
theorem in_X6_add : Cond.initialized me_X6_add.1.cls ∈ pm_T := pm_i1 3 rfl rfl
theorem nd_X6_add : me_X6_add.1.cls ≠ "java/lang/invoke/MethodHandle" ∧ me_X6_add.1.cls ≠ "java/lang/invoke/VarHandle" ∧ (parseMethodDescriptor me_X6_add.1.desc).map (fun d => d.parameters.length) = some 2 := by decide +kernel
theorem iv_X6_add : Cond.instanceMethod me_X6_add.1 ∈ pm_T ∧ Cond.selects me_X6_add.1.cls me_X6_add.1 me_X6_add.1 ∈ pm_T := ⟨pm_i2 143 rfl rfl, pm_i0 2 rfl rfl⟩
theorem cd_X6_endFrom : Cond.code me_X6_endFrom.1 me_X6_endFrom.2.1 me_X6_endFrom.2.2.1 me_X6_endFrom.2.2.2 ∈ pm_T := pm_i2 127 rfl rfl
theorem in_X6_endFrom : Cond.initialized me_X6_endFrom.1.cls ∈ pm_T := pm_i1 3 rfl rfl
theorem nd_X6_endFrom : me_X6_endFrom.1.cls ≠ "java/lang/invoke/MethodHandle" ∧ me_X6_endFrom.1.cls ≠ "java/lang/invoke/VarHandle" ∧ (parseMethodDescriptor me_X6_endFrom.1.desc).map (fun d => d.parameters.length) = some 1 := by decide +kernel
theorem iv_X6_endFrom : Cond.instanceMethod me_X6_endFrom.1 ∈ pm_T ∧ Cond.selects me_X6_endFrom.1.cls me_X6_endFrom.1 me_X6_endFrom.1 ∈ pm_T := ⟨pm_i2 126 rfl rfl, pm_i0 1 rfl rfl⟩
theorem cd_X6_kindFrom : Cond.code me_X6_kindFrom.1 me_X6_kindFrom.2.1 me_X6_kindFrom.2.2.1 me_X6_kindFrom.2.2.2 ∈ pm_T := pm_i2 148 rfl rfl
theorem in_X6_kindFrom : Cond.initialized me_X6_kindFrom.1.cls ∈ pm_T := pm_i1 3 rfl rfl
theorem nd_X6_kindFrom : me_X6_kindFrom.1.cls ≠ "java/lang/invoke/MethodHandle" ∧ me_X6_kindFrom.1.cls ≠ "java/lang/invoke/VarHandle" ∧ (parseMethodDescriptor me_X6_kindFrom.1.desc).map (fun d => d.parameters.length) = some 2 := by decide +kernel
theorem iv_X6_kindFrom : Cond.instanceMethod me_X6_kindFrom.1 ∈ pm_T ∧ Cond.selects me_X6_kindFrom.1.cls me_X6_kindFrom.1 me_X6_kindFrom.1 ∈ pm_T := ⟨pm_i2 147 rfl rfl, pm_i0 3 rfl rfl⟩
theorem cd_X6_holdsLetter : Cond.code me_X6_holdsLetter.1 me_X6_holdsLetter.2.1 me_X6_holdsLetter.2.2.1 me_X6_holdsLetter.2.2.2 ∈ pm_T := pm_i2 211 rfl rfl
theorem in_X6_holdsLetter : Cond.initialized me_X6_holdsLetter.1.cls ∈ pm_T := pm_i1 3 rfl rfl
theorem nd_X6_holdsLetter : me_X6_holdsLetter.1.cls ≠ "java/lang/invoke/MethodHandle" ∧ me_X6_holdsLetter.1.cls ≠ "java/lang/invoke/VarHandle" ∧ (parseMethodDescriptor me_X6_holdsLetter.1.desc).map (fun d => d.parameters.length) = some 2 := by decide +kernel
theorem iv_X6_holdsLetter : Cond.instanceMethod me_X6_holdsLetter.1 ∈ pm_T ∧ Cond.selects me_X6_holdsLetter.1.cls me_X6_holdsLetter.1 me_X6_holdsLetter.1 ∈ pm_T := ⟨pm_i2 210 rfl rfl, pm_i0 6 rfl rfl⟩
theorem cd_X6_wordOrName : Cond.code me_X6_wordOrName.1 me_X6_wordOrName.2.1 me_X6_wordOrName.2.2.1 me_X6_wordOrName.2.2.2 ∈ pm_T := pm_i2 153 rfl rfl
theorem in_X6_wordOrName : Cond.initialized me_X6_wordOrName.1.cls ∈ pm_T := pm_i1 3 rfl rfl
theorem nd_X6_wordOrName : me_X6_wordOrName.1.cls ≠ "java/lang/invoke/MethodHandle" ∧ me_X6_wordOrName.1.cls ≠ "java/lang/invoke/VarHandle" ∧ (parseMethodDescriptor me_X6_wordOrName.1.desc).map (fun d => d.parameters.length) = some 2 := by decide +kernel
theorem iv_X6_wordOrName : Cond.instanceMethod me_X6_wordOrName.1 ∈ pm_T ∧ Cond.selects me_X6_wordOrName.1.cls me_X6_wordOrName.1 me_X6_wordOrName.1 ∈ pm_T := ⟨pm_i2 152 rfl rfl, pm_i0 4 rfl rfl⟩
theorem cd_X6_isWord : Cond.code me_X6_isWord.1 me_X6_isWord.2.1 me_X6_isWord.2.2.1 me_X6_isWord.2.2.2 ∈ pm_T := pm_i2 157 rfl rfl
theorem in_X6_isWord : Cond.initialized me_X6_isWord.1.cls ∈ pm_T := pm_i1 3 rfl rfl
theorem nd_X6_isWord : me_X6_isWord.1.cls ≠ "java/lang/invoke/MethodHandle" ∧ me_X6_isWord.1.cls ≠ "java/lang/invoke/VarHandle" ∧ (parseMethodDescriptor me_X6_isWord.1.desc).map (fun d => d.parameters.length) = some 3 := by decide +kernel
theorem iv_X6_isWord : Cond.instanceMethod me_X6_isWord.1 ∈ pm_T ∧ Cond.selects me_X6_isWord.1.cls me_X6_isWord.1 me_X6_isWord.1 ∈ pm_T := ⟨pm_i2 156 rfl rfl, pm_i0 5 rfl rfl⟩
theorem cd_X6_sign : Cond.code me_X6_sign.1 me_X6_sign.2.1 me_X6_sign.2.2.1 me_X6_sign.2.2.2 ∈ pm_T := pm_i2 214 rfl rfl
theorem in_X6_sign : Cond.initialized me_X6_sign.1.cls ∈ pm_T := pm_i1 3 rfl rfl
theorem nd_X6_sign : me_X6_sign.1.cls ≠ "java/lang/invoke/MethodHandle" ∧ me_X6_sign.1.cls ≠ "java/lang/invoke/VarHandle" ∧ (parseMethodDescriptor me_X6_sign.1.desc).map (fun d => d.parameters.length) = some 1 := by decide +kernel
theorem iv_X6_sign : Cond.static me_X6_sign.1 ∈ pm_T := pm_i2 213 rfl rfl
theorem cd_X7_init : Cond.code me_X7_init.1 me_X7_init.2.1 me_X7_init.2.2.1 me_X7_init.2.2.2 ∈ pm_T := pm_i1 129 rfl rfl
theorem in_X7_init : Cond.initialized me_X7_init.1.cls ∈ pm_T := pm_i1 7 rfl rfl
theorem nd_X7_init : me_X7_init.1.cls ≠ "java/lang/invoke/MethodHandle" ∧ me_X7_init.1.cls ≠ "java/lang/invoke/VarHandle" ∧ (parseMethodDescriptor me_X7_init.1.desc).map (fun d => d.parameters.length) = some 0 := by decide +kernel
theorem iv_X7_init : me_X7_init.1.name = "<init>" ∧ Cond.instanceMethod me_X7_init.1 ∈ pm_T ∧ me_X7_init.2.2.2 = none := ⟨rfl, pm_i1 128 rfl rfl, rfl⟩
theorem cd_X7_size : Cond.code me_X7_size.1 me_X7_size.2.1 me_X7_size.2.2.1 me_X7_size.2.2.2 ∈ pm_T := pm_i3 175 rfl rfl
theorem in_X7_size : Cond.initialized me_X7_size.1.cls ∈ pm_T := pm_i1 7 rfl rfl
theorem nd_X7_size : me_X7_size.1.cls ≠ "java/lang/invoke/MethodHandle" ∧ me_X7_size.1.cls ≠ "java/lang/invoke/VarHandle" ∧ (parseMethodDescriptor me_X7_size.1.desc).map (fun d => d.parameters.length) = some 0 := by decide +kernel
theorem iv_X7_size : Cond.instanceMethod me_X7_size.1 ∈ pm_T ∧ Cond.selects me_X7_size.1.cls me_X7_size.1 me_X7_size.1 ∈ pm_T := ⟨pm_i3 173 rfl rfl, pm_i3 174 rfl rfl⟩
theorem cd_X7_root : Cond.code me_X7_root.1 me_X7_root.2.1 me_X7_root.2.2.1 me_X7_root.2.2.2 ∈ pm_T := pm_i4 121 rfl rfl
theorem in_X7_root : Cond.initialized me_X7_root.1.cls ∈ pm_T := pm_i1 7 rfl rfl
theorem nd_X7_root : me_X7_root.1.cls ≠ "java/lang/invoke/MethodHandle" ∧ me_X7_root.1.cls ≠ "java/lang/invoke/VarHandle" ∧ (parseMethodDescriptor me_X7_root.1.desc).map (fun d => d.parameters.length) = some 0 := by decide +kernel
theorem iv_X7_root : Cond.instanceMethod me_X7_root.1 ∈ pm_T ∧ Cond.selects me_X7_root.1.cls me_X7_root.1 me_X7_root.1 ∈ pm_T := ⟨pm_i4 119 rfl rfl, pm_i4 120 rfl rfl⟩
theorem cd_X7_nodes : Cond.code me_X7_nodes.1 me_X7_nodes.2.1 me_X7_nodes.2.2.1 me_X7_nodes.2.2.2 ∈ pm_T := pm_i1 161 rfl rfl
theorem in_X7_nodes : Cond.initialized me_X7_nodes.1.cls ∈ pm_T := pm_i1 7 rfl rfl
theorem nd_X7_nodes : me_X7_nodes.1.cls ≠ "java/lang/invoke/MethodHandle" ∧ me_X7_nodes.1.cls ≠ "java/lang/invoke/VarHandle" ∧ (parseMethodDescriptor me_X7_nodes.1.desc).map (fun d => d.parameters.length) = some 0 := by decide +kernel
theorem iv_X7_nodes : Cond.instanceMethod me_X7_nodes.1 ∈ pm_T ∧ Cond.selects me_X7_nodes.1.cls me_X7_nodes.1 me_X7_nodes.1 ∈ pm_T := ⟨pm_i1 159 rfl rfl, pm_i1 160 rfl rfl⟩
theorem cd_X7_boundEnd : Cond.code me_X7_boundEnd.1 me_X7_boundEnd.2.1 me_X7_boundEnd.2.2.1 me_X7_boundEnd.2.2.2 ∈ pm_T := pm_i3 199 rfl rfl
theorem in_X7_boundEnd : Cond.initialized me_X7_boundEnd.1.cls ∈ pm_T := pm_i1 7 rfl rfl
theorem nd_X7_boundEnd : me_X7_boundEnd.1.cls ≠ "java/lang/invoke/MethodHandle" ∧ me_X7_boundEnd.1.cls ≠ "java/lang/invoke/VarHandle" ∧ (parseMethodDescriptor me_X7_boundEnd.1.desc).map (fun d => d.parameters.length) = some 1 := by decide +kernel
theorem iv_X7_boundEnd : Cond.instanceMethod me_X7_boundEnd.1 ∈ pm_T ∧ Cond.selects me_X7_boundEnd.1.cls me_X7_boundEnd.1 me_X7_boundEnd.1 ∈ pm_T := ⟨pm_i3 197 rfl rfl, pm_i3 198 rfl rfl⟩
theorem cd_X7_slot : Cond.code me_X7_slot.1 me_X7_slot.2.1 me_X7_slot.2.2.1 me_X7_slot.2.2.2 ∈ pm_T := pm_i3 204 rfl rfl
theorem in_X7_slot : Cond.initialized me_X7_slot.1.cls ∈ pm_T := pm_i1 7 rfl rfl
theorem nd_X7_slot : me_X7_slot.1.cls ≠ "java/lang/invoke/MethodHandle" ∧ me_X7_slot.1.cls ≠ "java/lang/invoke/VarHandle" ∧ (parseMethodDescriptor me_X7_slot.1.desc).map (fun d => d.parameters.length) = some 1 := by decide +kernel
theorem iv_X7_slot : Cond.instanceMethod me_X7_slot.1 ∈ pm_T ∧ Cond.selects me_X7_slot.1.cls me_X7_slot.1 me_X7_slot.1 ∈ pm_T := ⟨pm_i3 202 rfl rfl, pm_i3 203 rfl rfl⟩
theorem cd_X7_ownerOf : Cond.code me_X7_ownerOf.1 me_X7_ownerOf.2.1 me_X7_ownerOf.2.2.1 me_X7_ownerOf.2.2.2 ∈ pm_T := pm_i3 134 rfl rfl
theorem in_X7_ownerOf : Cond.initialized me_X7_ownerOf.1.cls ∈ pm_T := pm_i1 7 rfl rfl
theorem nd_X7_ownerOf : me_X7_ownerOf.1.cls ≠ "java/lang/invoke/MethodHandle" ∧ me_X7_ownerOf.1.cls ≠ "java/lang/invoke/VarHandle" ∧ (parseMethodDescriptor me_X7_ownerOf.1.desc).map (fun d => d.parameters.length) = some 1 := by decide +kernel
theorem iv_X7_ownerOf : Cond.instanceMethod me_X7_ownerOf.1 ∈ pm_T ∧ Cond.selects me_X7_ownerOf.1.cls me_X7_ownerOf.1 me_X7_ownerOf.1 ∈ pm_T := ⟨pm_i3 132 rfl rfl, pm_i3 133 rfl rfl⟩
theorem cd_X7_gather : Cond.code me_X7_gather.1 me_X7_gather.2.1 me_X7_gather.2.2.1 me_X7_gather.2.2.2 ∈ pm_T := pm_i3 116 rfl rfl
theorem in_X7_gather : Cond.initialized me_X7_gather.1.cls ∈ pm_T := pm_i1 7 rfl rfl
theorem nd_X7_gather : me_X7_gather.1.cls ≠ "java/lang/invoke/MethodHandle" ∧ me_X7_gather.1.cls ≠ "java/lang/invoke/VarHandle" ∧ (parseMethodDescriptor me_X7_gather.1.desc).map (fun d => d.parameters.length) = some 2 := by decide +kernel
theorem iv_X7_gather : Cond.instanceMethod me_X7_gather.1 ∈ pm_T ∧ Cond.selects me_X7_gather.1.cls me_X7_gather.1 me_X7_gather.1 ∈ pm_T := ⟨pm_i3 114 rfl rfl, pm_i3 115 rfl rfl⟩
theorem cd_X7_linkNodes : Cond.code me_X7_linkNodes.1 me_X7_linkNodes.2.1 me_X7_linkNodes.2.2.1 me_X7_linkNodes.2.2.2 ∈ pm_T := pm_i3 147 rfl rfl
theorem in_X7_linkNodes : Cond.initialized me_X7_linkNodes.1.cls ∈ pm_T := pm_i1 7 rfl rfl
theorem nd_X7_linkNodes : me_X7_linkNodes.1.cls ≠ "java/lang/invoke/MethodHandle" ∧ me_X7_linkNodes.1.cls ≠ "java/lang/invoke/VarHandle" ∧ (parseMethodDescriptor me_X7_linkNodes.1.desc).map (fun d => d.parameters.length) = some 2 := by decide +kernel
theorem iv_X7_linkNodes : Cond.instanceMethod me_X7_linkNodes.1 ∈ pm_T ∧ Cond.selects me_X7_linkNodes.1.cls me_X7_linkNodes.1 me_X7_linkNodes.1 ∈ pm_T := ⟨pm_i3 146 rfl rfl, pm_i0 30 rfl rfl⟩
theorem cd_X7_countSlots : Cond.code me_X7_countSlots.1 me_X7_countSlots.2.1 me_X7_countSlots.2.2.1 me_X7_countSlots.2.2.2 ∈ pm_T := pm_i3 171 rfl rfl
theorem in_X7_countSlots : Cond.initialized me_X7_countSlots.1.cls ∈ pm_T := pm_i1 7 rfl rfl
theorem nd_X7_countSlots : me_X7_countSlots.1.cls ≠ "java/lang/invoke/MethodHandle" ∧ me_X7_countSlots.1.cls ≠ "java/lang/invoke/VarHandle" ∧ (parseMethodDescriptor me_X7_countSlots.1.desc).map (fun d => d.parameters.length) = some 0 := by decide +kernel
theorem iv_X7_countSlots : Cond.instanceMethod me_X7_countSlots.1 ∈ pm_T ∧ Cond.selects me_X7_countSlots.1.cls me_X7_countSlots.1 me_X7_countSlots.1 ∈ pm_T := ⟨pm_i3 170 rfl rfl, pm_i0 31 rfl rfl⟩
theorem cd_X7_isNode : Cond.code me_X7_isNode.1 me_X7_isNode.2.1 me_X7_isNode.2.2.1 me_X7_isNode.2.2.2 ∈ pm_T := pm_i3 139 rfl rfl
theorem in_X7_isNode : Cond.initialized me_X7_isNode.1.cls ∈ pm_T := pm_i1 7 rfl rfl
theorem nd_X7_isNode : me_X7_isNode.1.cls ≠ "java/lang/invoke/MethodHandle" ∧ me_X7_isNode.1.cls ≠ "java/lang/invoke/VarHandle" ∧ (parseMethodDescriptor me_X7_isNode.1.desc).map (fun d => d.parameters.length) = some 1 := by decide +kernel
theorem iv_X7_isNode : Cond.instanceMethod me_X7_isNode.1 ∈ pm_T ∧ Cond.selects me_X7_isNode.1.cls me_X7_isNode.1 me_X7_isNode.1 ∈ pm_T := ⟨pm_i3 138 rfl rfl, pm_i0 29 rfl rfl⟩
theorem cd_X8_init : Cond.code me_X8_init.1 me_X8_init.2.1 me_X8_init.2.2.1 me_X8_init.2.2.2 ∈ pm_T := pm_i2 22 rfl rfl
theorem in_X8_init : Cond.initialized me_X8_init.1.cls ∈ pm_T := pm_i1 12 rfl rfl
theorem nd_X8_init : me_X8_init.1.cls ≠ "java/lang/invoke/MethodHandle" ∧ me_X8_init.1.cls ≠ "java/lang/invoke/VarHandle" ∧ (parseMethodDescriptor me_X8_init.1.desc).map (fun d => d.parameters.length) = some 2 := by decide +kernel
theorem iv_X8_init : me_X8_init.1.name = "<init>" ∧ Cond.instanceMethod me_X8_init.1 ∈ pm_T ∧ me_X8_init.2.2.2 = none := ⟨rfl, pm_i2 21 rfl rfl, rfl⟩
theorem cd_X8_write : Cond.code me_X8_write.1 me_X8_write.2.1 me_X8_write.2.2.1 me_X8_write.2.2.2 ∈ pm_T := pm_i4 126 rfl rfl
theorem in_X8_write : Cond.initialized me_X8_write.1.cls ∈ pm_T := pm_i1 12 rfl rfl
theorem nd_X8_write : me_X8_write.1.cls ≠ "java/lang/invoke/MethodHandle" ∧ me_X8_write.1.cls ≠ "java/lang/invoke/VarHandle" ∧ (parseMethodDescriptor me_X8_write.1.desc).map (fun d => d.parameters.length) = some 1 := by decide +kernel
theorem iv_X8_write : Cond.instanceMethod me_X8_write.1 ∈ pm_T ∧ Cond.selects me_X8_write.1.cls me_X8_write.1 me_X8_write.1 ∈ pm_T := ⟨pm_i4 124 rfl rfl, pm_i4 125 rfl rfl⟩
theorem cd_X8_writeNext : Cond.code me_X8_writeNext.1 me_X8_writeNext.2.1 me_X8_writeNext.2.2.1 me_X8_writeNext.2.2.2 ∈ pm_T := pm_i4 145 rfl rfl
theorem in_X8_writeNext : Cond.initialized me_X8_writeNext.1.cls ∈ pm_T := pm_i1 12 rfl rfl
theorem nd_X8_writeNext : me_X8_writeNext.1.cls ≠ "java/lang/invoke/MethodHandle" ∧ me_X8_writeNext.1.cls ≠ "java/lang/invoke/VarHandle" ∧ (parseMethodDescriptor me_X8_writeNext.1.desc).map (fun d => d.parameters.length) = some 0 := by decide +kernel
theorem iv_X8_writeNext : Cond.instanceMethod me_X8_writeNext.1 ∈ pm_T ∧ Cond.selects me_X8_writeNext.1.cls me_X8_writeNext.1 me_X8_writeNext.1 ∈ pm_T := ⟨pm_i4 144 rfl rfl, pm_i0 48 rfl rfl⟩
theorem cd_X8_writeFunction : Cond.code me_X8_writeFunction.1 me_X8_writeFunction.2.1 me_X8_writeFunction.2.2.1 me_X8_writeFunction.2.2.2 ∈ pm_T := pm_i4 154 rfl rfl
theorem in_X8_writeFunction : Cond.initialized me_X8_writeFunction.1.cls ∈ pm_T := pm_i1 12 rfl rfl
theorem nd_X8_writeFunction : me_X8_writeFunction.1.cls ≠ "java/lang/invoke/MethodHandle" ∧ me_X8_writeFunction.1.cls ≠ "java/lang/invoke/VarHandle" ∧ (parseMethodDescriptor me_X8_writeFunction.1.desc).map (fun d => d.parameters.length) = some 2 := by decide +kernel
theorem iv_X8_writeFunction : Cond.instanceMethod me_X8_writeFunction.1 ∈ pm_T ∧ Cond.selects me_X8_writeFunction.1.cls me_X8_writeFunction.1 me_X8_writeFunction.1 ∈ pm_T := ⟨pm_i4 153 rfl rfl, pm_i0 50 rfl rfl⟩
theorem cd_X8_writePair : Cond.code me_X8_writePair.1 me_X8_writePair.2.1 me_X8_writePair.2.2.1 me_X8_writePair.2.2.2 ∈ pm_T := pm_i4 175 rfl rfl
theorem in_X8_writePair : Cond.initialized me_X8_writePair.1.cls ∈ pm_T := pm_i1 12 rfl rfl
theorem nd_X8_writePair : me_X8_writePair.1.cls ≠ "java/lang/invoke/MethodHandle" ∧ me_X8_writePair.1.cls ≠ "java/lang/invoke/VarHandle" ∧ (parseMethodDescriptor me_X8_writePair.1.desc).map (fun d => d.parameters.length) = some 2 := by decide +kernel
theorem iv_X8_writePair : Cond.instanceMethod me_X8_writePair.1 ∈ pm_T ∧ Cond.selects me_X8_writePair.1.cls me_X8_writePair.1 me_X8_writePair.1 ∈ pm_T := ⟨pm_i4 174 rfl rfl, pm_i0 51 rfl rfl⟩
theorem cd_X8_writeLetter : Cond.code me_X8_writeLetter.1 me_X8_writeLetter.2.1 me_X8_writeLetter.2.2.1 me_X8_writeLetter.2.2.2 ∈ pm_T := pm_i4 183 rfl rfl
theorem in_X8_writeLetter : Cond.initialized me_X8_writeLetter.1.cls ∈ pm_T := pm_i1 12 rfl rfl
theorem nd_X8_writeLetter : me_X8_writeLetter.1.cls ≠ "java/lang/invoke/MethodHandle" ∧ me_X8_writeLetter.1.cls ≠ "java/lang/invoke/VarHandle" ∧ (parseMethodDescriptor me_X8_writeLetter.1.desc).map (fun d => d.parameters.length) = some 1 := by decide +kernel
theorem iv_X8_writeLetter : Cond.instanceMethod me_X8_writeLetter.1 ∈ pm_T ∧ Cond.selects me_X8_writeLetter.1.cls me_X8_writeLetter.1 me_X8_writeLetter.1 ∈ pm_T := ⟨pm_i4 182 rfl rfl, pm_i0 52 rfl rfl⟩
theorem cd_X8_push : Cond.code me_X8_push.1 me_X8_push.2.1 me_X8_push.2.2.1 me_X8_push.2.2.2 ∈ pm_T := pm_i4 131 rfl rfl
theorem in_X8_push : Cond.initialized me_X8_push.1.cls ∈ pm_T := pm_i1 12 rfl rfl
theorem nd_X8_push : me_X8_push.1.cls ≠ "java/lang/invoke/MethodHandle" ∧ me_X8_push.1.cls ≠ "java/lang/invoke/VarHandle" ∧ (parseMethodDescriptor me_X8_push.1.desc).map (fun d => d.parameters.length) = some 1 := by decide +kernel
theorem iv_X8_push : Cond.instanceMethod me_X8_push.1 ∈ pm_T ∧ Cond.selects me_X8_push.1.cls me_X8_push.1 me_X8_push.1 ∈ pm_T := ⟨pm_i4 130 rfl rfl, pm_i0 46 rfl rfl⟩
theorem cd_X8_pushAgain : Cond.code me_X8_pushAgain.1 me_X8_pushAgain.2.1 me_X8_pushAgain.2.2.1 me_X8_pushAgain.2.2.2 ∈ pm_T := pm_i4 136 rfl rfl
theorem in_X8_pushAgain : Cond.initialized me_X8_pushAgain.1.cls ∈ pm_T := pm_i1 12 rfl rfl
theorem nd_X8_pushAgain : me_X8_pushAgain.1.cls ≠ "java/lang/invoke/MethodHandle" ∧ me_X8_pushAgain.1.cls ≠ "java/lang/invoke/VarHandle" ∧ (parseMethodDescriptor me_X8_pushAgain.1.desc).map (fun d => d.parameters.length) = some 2 := by decide +kernel
theorem iv_X8_pushAgain : Cond.instanceMethod me_X8_pushAgain.1 ∈ pm_T ∧ Cond.selects me_X8_pushAgain.1.cls me_X8_pushAgain.1 me_X8_pushAgain.1 ∈ pm_T := ⟨pm_i4 135 rfl rfl, pm_i0 47 rfl rfl⟩
theorem cd_X8_pop : Cond.code me_X8_pop.1 me_X8_pop.2.1 me_X8_pop.2.2.1 me_X8_pop.2.2.2 ∈ pm_T := pm_i4 149 rfl rfl
theorem in_X8_pop : Cond.initialized me_X8_pop.1.cls ∈ pm_T := pm_i1 12 rfl rfl
theorem nd_X8_pop : me_X8_pop.1.cls ≠ "java/lang/invoke/MethodHandle" ∧ me_X8_pop.1.cls ≠ "java/lang/invoke/VarHandle" ∧ (parseMethodDescriptor me_X8_pop.1.desc).map (fun d => d.parameters.length) = some 0 := by decide +kernel
theorem iv_X8_pop : Cond.instanceMethod me_X8_pop.1 ∈ pm_T ∧ Cond.selects me_X8_pop.1.cls me_X8_pop.1 me_X8_pop.1 ∈ pm_T := ⟨pm_i4 148 rfl rfl, pm_i0 49 rfl rfl⟩
theorem cd_X9_init : Cond.code me_X9_init.1 me_X9_init.2.1 me_X9_init.2.2.1 me_X9_init.2.2.2 ∈ pm_T := pm_i1 191 rfl rfl
theorem in_X9_init : Cond.initialized me_X9_init.1.cls ∈ pm_T := pm_i1 9 rfl rfl
theorem nd_X9_init : me_X9_init.1.cls ≠ "java/lang/invoke/MethodHandle" ∧ me_X9_init.1.cls ≠ "java/lang/invoke/VarHandle" ∧ (parseMethodDescriptor me_X9_init.1.desc).map (fun d => d.parameters.length) = some 0 := by decide +kernel
theorem iv_X9_init : me_X9_init.1.name = "<init>" ∧ Cond.instanceMethod me_X9_init.1 ∈ pm_T ∧ me_X9_init.2.2.2 = none := ⟨rfl, pm_i1 190 rfl rfl, rfl⟩
theorem cd_X9_begin : Cond.code me_X9_begin.1 me_X9_begin.2.1 me_X9_begin.2.2.1 me_X9_begin.2.2.2 ∈ pm_T := pm_i4 8 rfl rfl
theorem in_X9_begin : Cond.initialized me_X9_begin.1.cls ∈ pm_T := pm_i1 9 rfl rfl
theorem nd_X9_begin : me_X9_begin.1.cls ≠ "java/lang/invoke/MethodHandle" ∧ me_X9_begin.1.cls ≠ "java/lang/invoke/VarHandle" ∧ (parseMethodDescriptor me_X9_begin.1.desc).map (fun d => d.parameters.length) = some 1 := by decide +kernel
theorem iv_X9_begin : Cond.instanceMethod me_X9_begin.1 ∈ pm_T ∧ Cond.selects me_X9_begin.1.cls me_X9_begin.1 me_X9_begin.1 ∈ pm_T := ⟨pm_i4 6 rfl rfl, pm_i4 7 rfl rfl⟩
theorem cd_X9_intCell : Cond.code me_X9_intCell.1 me_X9_intCell.2.1 me_X9_intCell.2.2.1 me_X9_intCell.2.2.2 ∈ pm_T := pm_i4 74 rfl rfl
theorem in_X9_intCell : Cond.initialized me_X9_intCell.1.cls ∈ pm_T := pm_i1 9 rfl rfl
theorem nd_X9_intCell : me_X9_intCell.1.cls ≠ "java/lang/invoke/MethodHandle" ∧ me_X9_intCell.1.cls ≠ "java/lang/invoke/VarHandle" ∧ (parseMethodDescriptor me_X9_intCell.1.desc).map (fun d => d.parameters.length) = some 0 := by decide +kernel
theorem iv_X9_intCell : Cond.instanceMethod me_X9_intCell.1 ∈ pm_T ∧ Cond.selects me_X9_intCell.1.cls me_X9_intCell.1 me_X9_intCell.1 ∈ pm_T := ⟨pm_i4 72 rfl rfl, pm_i4 73 rfl rfl⟩
theorem cd_X9_boolCell : Cond.code me_X9_boolCell.1 me_X9_boolCell.2.1 me_X9_boolCell.2.2.1 me_X9_boolCell.2.2.2 ∈ pm_T := pm_i4 78 rfl rfl
theorem in_X9_boolCell : Cond.initialized me_X9_boolCell.1.cls ∈ pm_T := pm_i1 9 rfl rfl
theorem nd_X9_boolCell : me_X9_boolCell.1.cls ≠ "java/lang/invoke/MethodHandle" ∧ me_X9_boolCell.1.cls ≠ "java/lang/invoke/VarHandle" ∧ (parseMethodDescriptor me_X9_boolCell.1.desc).map (fun d => d.parameters.length) = some 0 := by decide +kernel
theorem iv_X9_boolCell : Cond.instanceMethod me_X9_boolCell.1 ∈ pm_T ∧ Cond.selects me_X9_boolCell.1.cls me_X9_boolCell.1 me_X9_boolCell.1 ∈ pm_T := ⟨pm_i4 76 rfl rfl, pm_i4 77 rfl rfl⟩
theorem cd_X9_free : Cond.code me_X9_free.1 me_X9_free.2.1 me_X9_free.2.2.1 me_X9_free.2.2.2 ∈ pm_T := pm_i4 12 rfl rfl
theorem in_X9_free : Cond.initialized me_X9_free.1.cls ∈ pm_T := pm_i1 9 rfl rfl
theorem nd_X9_free : me_X9_free.1.cls ≠ "java/lang/invoke/MethodHandle" ∧ me_X9_free.1.cls ≠ "java/lang/invoke/VarHandle" ∧ (parseMethodDescriptor me_X9_free.1.desc).map (fun d => d.parameters.length) = some 0 := by decide +kernel
theorem iv_X9_free : Cond.instanceMethod me_X9_free.1 ∈ pm_T ∧ Cond.selects me_X9_free.1.cls me_X9_free.1 me_X9_free.1 ∈ pm_T := ⟨pm_i4 10 rfl rfl, pm_i4 11 rfl rfl⟩
theorem cd_X9_function : Cond.code me_X9_function.1 me_X9_function.2.1 me_X9_function.2.2.1 me_X9_function.2.2.2 ∈ pm_T := pm_i4 82 rfl rfl
theorem in_X9_function : Cond.initialized me_X9_function.1.cls ∈ pm_T := pm_i1 9 rfl rfl
theorem nd_X9_function : me_X9_function.1.cls ≠ "java/lang/invoke/MethodHandle" ∧ me_X9_function.1.cls ≠ "java/lang/invoke/VarHandle" ∧ (parseMethodDescriptor me_X9_function.1.desc).map (fun d => d.parameters.length) = some 2 := by decide +kernel
theorem iv_X9_function : Cond.instanceMethod me_X9_function.1 ∈ pm_T ∧ Cond.selects me_X9_function.1.cls me_X9_function.1 me_X9_function.1 ∈ pm_T := ⟨pm_i4 80 rfl rfl, pm_i4 81 rfl rfl⟩
theorem cd_X9_pair : Cond.code me_X9_pair.1 me_X9_pair.2.1 me_X9_pair.2.2.1 me_X9_pair.2.2.2 ∈ pm_T := pm_i4 90 rfl rfl
theorem in_X9_pair : Cond.initialized me_X9_pair.1.cls ∈ pm_T := pm_i1 9 rfl rfl
theorem nd_X9_pair : me_X9_pair.1.cls ≠ "java/lang/invoke/MethodHandle" ∧ me_X9_pair.1.cls ≠ "java/lang/invoke/VarHandle" ∧ (parseMethodDescriptor me_X9_pair.1.desc).map (fun d => d.parameters.length) = some 2 := by decide +kernel
theorem iv_X9_pair : Cond.instanceMethod me_X9_pair.1 ∈ pm_T ∧ Cond.selects me_X9_pair.1.cls me_X9_pair.1 me_X9_pair.1 ∈ pm_T := ⟨pm_i4 88 rfl rfl, pm_i4 89 rfl rfl⟩
theorem cd_X9_partFunction : Cond.code me_X9_partFunction.1 me_X9_partFunction.2.1 me_X9_partFunction.2.2.1 me_X9_partFunction.2.2.2 ∈ pm_T := pm_i4 86 rfl rfl
theorem in_X9_partFunction : Cond.initialized me_X9_partFunction.1.cls ∈ pm_T := pm_i1 9 rfl rfl
theorem nd_X9_partFunction : me_X9_partFunction.1.cls ≠ "java/lang/invoke/MethodHandle" ∧ me_X9_partFunction.1.cls ≠ "java/lang/invoke/VarHandle" ∧ (parseMethodDescriptor me_X9_partFunction.1.desc).map (fun d => d.parameters.length) = some 1 := by decide +kernel
theorem iv_X9_partFunction : Cond.instanceMethod me_X9_partFunction.1 ∈ pm_T ∧ Cond.selects me_X9_partFunction.1.cls me_X9_partFunction.1 me_X9_partFunction.1 ∈ pm_T := ⟨pm_i4 84 rfl rfl, pm_i4 85 rfl rfl⟩
theorem cd_X9_kind : Cond.code me_X9_kind.1 me_X9_kind.2.1 me_X9_kind.2.2.1 me_X9_kind.2.2.2 ∈ pm_T := pm_i4 51 rfl rfl
theorem in_X9_kind : Cond.initialized me_X9_kind.1.cls ∈ pm_T := pm_i1 9 rfl rfl
theorem nd_X9_kind : me_X9_kind.1.cls ≠ "java/lang/invoke/MethodHandle" ∧ me_X9_kind.1.cls ≠ "java/lang/invoke/VarHandle" ∧ (parseMethodDescriptor me_X9_kind.1.desc).map (fun d => d.parameters.length) = some 1 := by decide +kernel
theorem iv_X9_kind : Cond.instanceMethod me_X9_kind.1 ∈ pm_T ∧ Cond.selects me_X9_kind.1.cls me_X9_kind.1 me_X9_kind.1 ∈ pm_T := ⟨pm_i4 49 rfl rfl, pm_i4 50 rfl rfl⟩
theorem cd_X9_left : Cond.code me_X9_left.1 me_X9_left.2.1 me_X9_left.2.2.1 me_X9_left.2.2.2 ∈ pm_T := pm_i4 55 rfl rfl
theorem in_X9_left : Cond.initialized me_X9_left.1.cls ∈ pm_T := pm_i1 9 rfl rfl
theorem nd_X9_left : me_X9_left.1.cls ≠ "java/lang/invoke/MethodHandle" ∧ me_X9_left.1.cls ≠ "java/lang/invoke/VarHandle" ∧ (parseMethodDescriptor me_X9_left.1.desc).map (fun d => d.parameters.length) = some 1 := by decide +kernel
theorem iv_X9_left : Cond.instanceMethod me_X9_left.1 ∈ pm_T ∧ Cond.selects me_X9_left.1.cls me_X9_left.1 me_X9_left.1 ∈ pm_T := ⟨pm_i4 53 rfl rfl, pm_i4 54 rfl rfl⟩
theorem cd_X9_right : Cond.code me_X9_right.1 me_X9_right.2.1 me_X9_right.2.2.1 me_X9_right.2.2.2 ∈ pm_T := pm_i4 70 rfl rfl
theorem in_X9_right : Cond.initialized me_X9_right.1.cls ∈ pm_T := pm_i1 9 rfl rfl
theorem nd_X9_right : me_X9_right.1.cls ≠ "java/lang/invoke/MethodHandle" ∧ me_X9_right.1.cls ≠ "java/lang/invoke/VarHandle" ∧ (parseMethodDescriptor me_X9_right.1.desc).map (fun d => d.parameters.length) = some 1 := by decide +kernel
theorem iv_X9_right : Cond.instanceMethod me_X9_right.1 ∈ pm_T ∧ Cond.selects me_X9_right.1.cls me_X9_right.1 me_X9_right.1 ∈ pm_T := ⟨pm_i4 68 rfl rfl, pm_i4 69 rfl rfl⟩
theorem cd_X9_mark : Cond.code me_X9_mark.1 me_X9_mark.2.1 me_X9_mark.2.2.1 me_X9_mark.2.2.2 ∈ pm_T := pm_i4 109 rfl rfl
theorem in_X9_mark : Cond.initialized me_X9_mark.1.cls ∈ pm_T := pm_i1 9 rfl rfl
theorem nd_X9_mark : me_X9_mark.1.cls ≠ "java/lang/invoke/MethodHandle" ∧ me_X9_mark.1.cls ≠ "java/lang/invoke/VarHandle" ∧ (parseMethodDescriptor me_X9_mark.1.desc).map (fun d => d.parameters.length) = some 1 := by decide +kernel
theorem iv_X9_mark : Cond.instanceMethod me_X9_mark.1 ∈ pm_T ∧ Cond.selects me_X9_mark.1.cls me_X9_mark.1 me_X9_mark.1 ∈ pm_T := ⟨pm_i4 107 rfl rfl, pm_i4 108 rfl rfl⟩
theorem cd_X9_setMark : Cond.code me_X9_setMark.1 me_X9_setMark.2.1 me_X9_setMark.2.2.1 me_X9_setMark.2.2.2 ∈ pm_T := pm_i4 113 rfl rfl
theorem in_X9_setMark : Cond.initialized me_X9_setMark.1.cls ∈ pm_T := pm_i1 9 rfl rfl
theorem nd_X9_setMark : me_X9_setMark.1.cls ≠ "java/lang/invoke/MethodHandle" ∧ me_X9_setMark.1.cls ≠ "java/lang/invoke/VarHandle" ∧ (parseMethodDescriptor me_X9_setMark.1.desc).map (fun d => d.parameters.length) = some 2 := by decide +kernel
theorem iv_X9_setMark : Cond.instanceMethod me_X9_setMark.1 ∈ pm_T ∧ Cond.selects me_X9_setMark.1.cls me_X9_setMark.1 me_X9_setMark.1 ∈ pm_T := ⟨pm_i4 111 rfl rfl, pm_i4 112 rfl rfl⟩
theorem cd_X9_clearMarks : Cond.code me_X9_clearMarks.1 me_X9_clearMarks.2.1 me_X9_clearMarks.2.2.1 me_X9_clearMarks.2.2.2 ∈ pm_T := pm_i4 105 rfl rfl
theorem in_X9_clearMarks : Cond.initialized me_X9_clearMarks.1.cls ∈ pm_T := pm_i1 9 rfl rfl
theorem nd_X9_clearMarks : me_X9_clearMarks.1.cls ≠ "java/lang/invoke/MethodHandle" ∧ me_X9_clearMarks.1.cls ≠ "java/lang/invoke/VarHandle" ∧ (parseMethodDescriptor me_X9_clearMarks.1.desc).map (fun d => d.parameters.length) = some 0 := by decide +kernel
theorem iv_X9_clearMarks : Cond.instanceMethod me_X9_clearMarks.1 ∈ pm_T ∧ Cond.selects me_X9_clearMarks.1.cls me_X9_clearMarks.1 me_X9_clearMarks.1 ∈ pm_T := ⟨pm_i4 103 rfl rfl, pm_i4 104 rfl rfl⟩
theorem cd_X9_scratch : Cond.code me_X9_scratch.1 me_X9_scratch.2.1 me_X9_scratch.2.2.1 me_X9_scratch.2.2.2 ∈ pm_T := pm_i2 27 rfl rfl
theorem in_X9_scratch : Cond.initialized me_X9_scratch.1.cls ∈ pm_T := pm_i1 9 rfl rfl
theorem nd_X9_scratch : me_X9_scratch.1.cls ≠ "java/lang/invoke/MethodHandle" ∧ me_X9_scratch.1.cls ≠ "java/lang/invoke/VarHandle" ∧ (parseMethodDescriptor me_X9_scratch.1.desc).map (fun d => d.parameters.length) = some 0 := by decide +kernel
theorem iv_X9_scratch : Cond.instanceMethod me_X9_scratch.1 ∈ pm_T ∧ Cond.selects me_X9_scratch.1.cls me_X9_scratch.1 me_X9_scratch.1 ∈ pm_T := ⟨pm_i2 25 rfl rfl, pm_i2 26 rfl rfl⟩
theorem cd_X9_rootOf : Cond.code me_X9_rootOf.1 me_X9_rootOf.2.1 me_X9_rootOf.2.2.1 me_X9_rootOf.2.2.2 ∈ pm_T := pm_i4 47 rfl rfl
theorem in_X9_rootOf : Cond.initialized me_X9_rootOf.1.cls ∈ pm_T := pm_i1 9 rfl rfl
theorem nd_X9_rootOf : me_X9_rootOf.1.cls ≠ "java/lang/invoke/MethodHandle" ∧ me_X9_rootOf.1.cls ≠ "java/lang/invoke/VarHandle" ∧ (parseMethodDescriptor me_X9_rootOf.1.desc).map (fun d => d.parameters.length) = some 1 := by decide +kernel
theorem iv_X9_rootOf : Cond.instanceMethod me_X9_rootOf.1 ∈ pm_T ∧ Cond.selects me_X9_rootOf.1.cls me_X9_rootOf.1 me_X9_rootOf.1 ∈ pm_T := ⟨pm_i4 45 rfl rfl, pm_i4 46 rfl rfl⟩
theorem cd_X9_unify : Cond.code me_X9_unify.1 me_X9_unify.2.1 me_X9_unify.2.2.1 me_X9_unify.2.2.2 ∈ pm_T := pm_i4 38 rfl rfl
theorem in_X9_unify : Cond.initialized me_X9_unify.1.cls ∈ pm_T := pm_i1 9 rfl rfl
theorem nd_X9_unify : me_X9_unify.1.cls ≠ "java/lang/invoke/MethodHandle" ∧ me_X9_unify.1.cls ≠ "java/lang/invoke/VarHandle" ∧ (parseMethodDescriptor me_X9_unify.1.desc).map (fun d => d.parameters.length) = some 2 := by decide +kernel
theorem iv_X9_unify : Cond.instanceMethod me_X9_unify.1 ∈ pm_T ∧ Cond.selects me_X9_unify.1.cls me_X9_unify.1 me_X9_unify.1 ∈ pm_T := ⟨pm_i4 36 rfl rfl, pm_i4 37 rfl rfl⟩
theorem cd_X9_areFinite : Cond.code me_X9_areFinite.1 me_X9_areFinite.2.1 me_X9_areFinite.2.2.1 me_X9_areFinite.2.2.2 ∈ pm_T := pm_i4 97 rfl rfl
theorem in_X9_areFinite : Cond.initialized me_X9_areFinite.1.cls ∈ pm_T := pm_i1 9 rfl rfl
theorem nd_X9_areFinite : me_X9_areFinite.1.cls ≠ "java/lang/invoke/MethodHandle" ∧ me_X9_areFinite.1.cls ≠ "java/lang/invoke/VarHandle" ∧ (parseMethodDescriptor me_X9_areFinite.1.desc).map (fun d => d.parameters.length) = some 0 := by decide +kernel
theorem iv_X9_areFinite : Cond.instanceMethod me_X9_areFinite.1 ∈ pm_T ∧ Cond.selects me_X9_areFinite.1.cls me_X9_areFinite.1 me_X9_areFinite.1 ∈ pm_T := ⟨pm_i4 95 rfl rfl, pm_i4 96 rfl rfl⟩
theorem cd_X9_countUses : Cond.code me_X9_countUses.1 me_X9_countUses.2.1 me_X9_countUses.2.2.1 me_X9_countUses.2.2.2 ∈ pm_T := pm_i4 101 rfl rfl
theorem in_X9_countUses : Cond.initialized me_X9_countUses.1.cls ∈ pm_T := pm_i1 9 rfl rfl
theorem nd_X9_countUses : me_X9_countUses.1.cls ≠ "java/lang/invoke/MethodHandle" ∧ me_X9_countUses.1.cls ≠ "java/lang/invoke/VarHandle" ∧ (parseMethodDescriptor me_X9_countUses.1.desc).map (fun d => d.parameters.length) = some 0 := by decide +kernel
theorem iv_X9_countUses : Cond.instanceMethod me_X9_countUses.1 ∈ pm_T ∧ Cond.selects me_X9_countUses.1.cls me_X9_countUses.1 me_X9_countUses.1 ∈ pm_T := ⟨pm_i4 100 rfl rfl, pm_i0 44 rfl rfl⟩
theorem cd_X9_loseUse : Cond.code me_X9_loseUse.1 me_X9_loseUse.2.1 me_X9_loseUse.2.2.1 me_X9_loseUse.2.2.2 ∈ pm_T := pm_i4 117 rfl rfl
theorem in_X9_loseUse : Cond.initialized me_X9_loseUse.1.cls ∈ pm_T := pm_i1 9 rfl rfl
theorem nd_X9_loseUse : me_X9_loseUse.1.cls ≠ "java/lang/invoke/MethodHandle" ∧ me_X9_loseUse.1.cls ≠ "java/lang/invoke/VarHandle" ∧ (parseMethodDescriptor me_X9_loseUse.1.desc).map (fun d => d.parameters.length) = some 2 := by decide +kernel
theorem iv_X9_loseUse : Cond.instanceMethod me_X9_loseUse.1 ∈ pm_T ∧ Cond.selects me_X9_loseUse.1.cls me_X9_loseUse.1 me_X9_loseUse.1 ∈ pm_T := ⟨pm_i4 116 rfl rfl, pm_i0 45 rfl rfl⟩
theorem cd_X9_unifyParts : Cond.code me_X9_unifyParts.1 me_X9_unifyParts.2.1 me_X9_unifyParts.2.2.1 me_X9_unifyParts.2.2.2 ∈ pm_T := pm_i4 63 rfl rfl
theorem in_X9_unifyParts : Cond.initialized me_X9_unifyParts.1.cls ∈ pm_T := pm_i1 9 rfl rfl
theorem nd_X9_unifyParts : me_X9_unifyParts.1.cls ≠ "java/lang/invoke/MethodHandle" ∧ me_X9_unifyParts.1.cls ≠ "java/lang/invoke/VarHandle" ∧ (parseMethodDescriptor me_X9_unifyParts.1.desc).map (fun d => d.parameters.length) = some 3 := by decide +kernel
theorem iv_X9_unifyParts : Cond.instanceMethod me_X9_unifyParts.1 ∈ pm_T ∧ Cond.selects me_X9_unifyParts.1.cls me_X9_unifyParts.1 me_X9_unifyParts.1 ∈ pm_T := ⟨pm_i4 62 rfl rfl, pm_i0 43 rfl rfl⟩
theorem cd_X9_push : Cond.code me_X9_push.1 me_X9_push.2.1 me_X9_push.2.2.1 me_X9_push.2.2.2 ∈ pm_T := pm_i4 42 rfl rfl
theorem in_X9_push : Cond.initialized me_X9_push.1.cls ∈ pm_T := pm_i1 9 rfl rfl
theorem nd_X9_push : me_X9_push.1.cls ≠ "java/lang/invoke/MethodHandle" ∧ me_X9_push.1.cls ≠ "java/lang/invoke/VarHandle" ∧ (parseMethodDescriptor me_X9_push.1.desc).map (fun d => d.parameters.length) = some 3 := by decide +kernel
theorem iv_X9_push : Cond.instanceMethod me_X9_push.1 ∈ pm_T ∧ Cond.selects me_X9_push.1.cls me_X9_push.1 me_X9_push.1 ∈ pm_T := ⟨pm_i4 41 rfl rfl, pm_i0 41 rfl rfl⟩
theorem cd_X9_link : Cond.code me_X9_link.1 me_X9_link.2.1 me_X9_link.2.2.1 me_X9_link.2.2.2 ∈ pm_T := pm_i4 59 rfl rfl
theorem in_X9_link : Cond.initialized me_X9_link.1.cls ∈ pm_T := pm_i1 9 rfl rfl
theorem nd_X9_link : me_X9_link.1.cls ≠ "java/lang/invoke/MethodHandle" ∧ me_X9_link.1.cls ≠ "java/lang/invoke/VarHandle" ∧ (parseMethodDescriptor me_X9_link.1.desc).map (fun d => d.parameters.length) = some 2 := by decide +kernel
theorem iv_X9_link : Cond.instanceMethod me_X9_link.1 ∈ pm_T ∧ Cond.selects me_X9_link.1.cls me_X9_link.1 me_X9_link.1 ∈ pm_T := ⟨pm_i4 58 rfl rfl, pm_i0 42 rfl rfl⟩
theorem cd_X9_hasParts : Cond.code me_X9_hasParts.1 me_X9_hasParts.2.1 me_X9_hasParts.2.2.1 me_X9_hasParts.2.2.2 ∈ pm_T := pm_i4 66 rfl rfl
theorem in_X9_hasParts : Cond.initialized me_X9_hasParts.1.cls ∈ pm_T := pm_i1 9 rfl rfl
theorem nd_X9_hasParts : me_X9_hasParts.1.cls ≠ "java/lang/invoke/MethodHandle" ∧ me_X9_hasParts.1.cls ≠ "java/lang/invoke/VarHandle" ∧ (parseMethodDescriptor me_X9_hasParts.1.desc).map (fun d => d.parameters.length) = some 1 := by decide +kernel
theorem iv_X9_hasParts : Cond.static me_X9_hasParts.1 ∈ pm_T := pm_i4 65 rfl rfl
theorem cd_X9_add : Cond.code me_X9_add.1 me_X9_add.2.1 me_X9_add.2.2.1 me_X9_add.2.2.2 ∈ pm_T := pm_i4 16 rfl rfl
theorem in_X9_add : Cond.initialized me_X9_add.1.cls ∈ pm_T := pm_i1 9 rfl rfl
theorem nd_X9_add : me_X9_add.1.cls ≠ "java/lang/invoke/MethodHandle" ∧ me_X9_add.1.cls ≠ "java/lang/invoke/VarHandle" ∧ (parseMethodDescriptor me_X9_add.1.desc).map (fun d => d.parameters.length) = some 3 := by decide +kernel
theorem iv_X9_add : Cond.instanceMethod me_X9_add.1 ∈ pm_T ∧ Cond.selects me_X9_add.1.cls me_X9_add.1 me_X9_add.1 ∈ pm_T := ⟨pm_i4 15 rfl rfl, pm_i0 39 rfl rfl⟩
theorem cd_X10_init : Cond.code me_X10_init.1 me_X10_init.2.1 me_X10_init.2.2.1 me_X10_init.2.2.2 ∈ pm_T := pm_i1 22 rfl rfl
theorem in_X10_init : Cond.initialized me_X10_init.1.cls ∈ pm_T := pm_i1 1 rfl rfl
theorem nd_X10_init : me_X10_init.1.cls ≠ "java/lang/invoke/MethodHandle" ∧ me_X10_init.1.cls ≠ "java/lang/invoke/VarHandle" ∧ (parseMethodDescriptor me_X10_init.1.desc).map (fun d => d.parameters.length) = some 0 := by decide +kernel
theorem iv_X10_init : me_X10_init.1.name = "<init>" ∧ Cond.instanceMethod me_X10_init.1 ∈ pm_T ∧ me_X10_init.2.2.2 = none := ⟨rfl, pm_i1 21 rfl rfl, rfl⟩
theorem cd_X10_put : Cond.code me_X10_put.1 me_X10_put.2.1 me_X10_put.2.2.1 me_X10_put.2.2.2 ∈ pm_T := pm_i2 90 rfl rfl
theorem in_X10_put : Cond.initialized me_X10_put.1.cls ∈ pm_T := pm_i1 1 rfl rfl
theorem nd_X10_put : me_X10_put.1.cls ≠ "java/lang/invoke/MethodHandle" ∧ me_X10_put.1.cls ≠ "java/lang/invoke/VarHandle" ∧ (parseMethodDescriptor me_X10_put.1.desc).map (fun d => d.parameters.length) = some 2 := by decide +kernel
theorem iv_X10_put : Cond.instanceMethod me_X10_put.1 ∈ pm_T ∧ Cond.selects me_X10_put.1.cls me_X10_put.1 me_X10_put.1 ∈ pm_T := ⟨pm_i2 88 rfl rfl, pm_i2 89 rfl rfl⟩
theorem cd_X10_judge : Cond.code me_X10_judge.1 me_X10_judge.2.1 me_X10_judge.2.2.1 me_X10_judge.2.2.2 ∈ pm_T := pm_i2 102 rfl rfl
theorem in_X10_judge : Cond.initialized me_X10_judge.1.cls ∈ pm_T := pm_i1 1 rfl rfl
theorem nd_X10_judge : me_X10_judge.1.cls ≠ "java/lang/invoke/MethodHandle" ∧ me_X10_judge.1.cls ≠ "java/lang/invoke/VarHandle" ∧ (parseMethodDescriptor me_X10_judge.1.desc).map (fun d => d.parameters.length) = some 0 := by decide +kernel
theorem iv_X10_judge : Cond.instanceMethod me_X10_judge.1 ∈ pm_T ∧ Cond.selects me_X10_judge.1.cls me_X10_judge.1 me_X10_judge.1 ∈ pm_T := ⟨pm_i2 100 rfl rfl, pm_i2 101 rfl rfl⟩
theorem cd_X10_place : Cond.code me_X10_place.1 me_X10_place.2.1 me_X10_place.2.2.1 me_X10_place.2.2.2 ∈ pm_T := pm_i4 228 rfl rfl
theorem in_X10_place : Cond.initialized me_X10_place.1.cls ∈ pm_T := pm_i1 1 rfl rfl
theorem nd_X10_place : me_X10_place.1.cls ≠ "java/lang/invoke/MethodHandle" ∧ me_X10_place.1.cls ≠ "java/lang/invoke/VarHandle" ∧ (parseMethodDescriptor me_X10_place.1.desc).map (fun d => d.parameters.length) = some 0 := by decide +kernel
theorem iv_X10_place : Cond.instanceMethod me_X10_place.1 ∈ pm_T ∧ Cond.selects me_X10_place.1.cls me_X10_place.1 me_X10_place.1 ∈ pm_T := ⟨pm_i4 226 rfl rfl, pm_i4 227 rfl rfl⟩
theorem cd_X10_isIn : Cond.code me_X10_isIn.1 me_X10_isIn.2.1 me_X10_isIn.2.2.1 me_X10_isIn.2.2.2 ∈ pm_T := pm_i4 205 rfl rfl
theorem in_X10_isIn : Cond.initialized me_X10_isIn.1.cls ∈ pm_T := pm_i1 1 rfl rfl
theorem nd_X10_isIn : me_X10_isIn.1.cls ≠ "java/lang/invoke/MethodHandle" ∧ me_X10_isIn.1.cls ≠ "java/lang/invoke/VarHandle" ∧ (parseMethodDescriptor me_X10_isIn.1.desc).map (fun d => d.parameters.length) = some 1 := by decide +kernel
theorem iv_X10_isIn : Cond.instanceMethod me_X10_isIn.1 ∈ pm_T ∧ Cond.selects me_X10_isIn.1.cls me_X10_isIn.1 me_X10_isIn.1 ∈ pm_T := ⟨pm_i4 203 rfl rfl, pm_i4 204 rfl rfl⟩
theorem cd_X10_fetch : Cond.code me_X10_fetch.1 me_X10_fetch.2.1 me_X10_fetch.2.2.1 me_X10_fetch.2.2.2 ∈ pm_T := pm_i4 233 rfl rfl
theorem in_X10_fetch : Cond.initialized me_X10_fetch.1.cls ∈ pm_T := pm_i1 1 rfl rfl
theorem nd_X10_fetch : me_X10_fetch.1.cls ≠ "java/lang/invoke/MethodHandle" ∧ me_X10_fetch.1.cls ≠ "java/lang/invoke/VarHandle" ∧ (parseMethodDescriptor me_X10_fetch.1.desc).map (fun d => d.parameters.length) = some 0 := by decide +kernel
theorem iv_X10_fetch : Cond.instanceMethod me_X10_fetch.1 ∈ pm_T ∧ Cond.selects me_X10_fetch.1.cls me_X10_fetch.1 me_X10_fetch.1 ∈ pm_T := ⟨pm_i4 231 rfl rfl, pm_i4 232 rfl rfl⟩
theorem cd_X10_count : Cond.code me_X10_count.1 me_X10_count.2.1 me_X10_count.2.2.1 me_X10_count.2.2.2 ∈ pm_T := pm_i5 6 rfl rfl
theorem in_X10_count : Cond.initialized me_X10_count.1.cls ∈ pm_T := pm_i1 1 rfl rfl
theorem nd_X10_count : me_X10_count.1.cls ≠ "java/lang/invoke/MethodHandle" ∧ me_X10_count.1.cls ≠ "java/lang/invoke/VarHandle" ∧ (parseMethodDescriptor me_X10_count.1.desc).map (fun d => d.parameters.length) = some 1 := by decide +kernel
theorem iv_X10_count : Cond.instanceMethod me_X10_count.1 ∈ pm_T ∧ Cond.selects me_X10_count.1.cls me_X10_count.1 me_X10_count.1 ∈ pm_T := ⟨pm_i5 4 rfl rfl, pm_i5 5 rfl rfl⟩
theorem cd_X10_forgetLastText : Cond.code me_X10_forgetLastText.1 me_X10_forgetLastText.2.1 me_X10_forgetLastText.2.2.1 me_X10_forgetLastText.2.2.2 ∈ pm_T := pm_i2 106 rfl rfl
theorem in_X10_forgetLastText : Cond.initialized me_X10_forgetLastText.1.cls ∈ pm_T := pm_i1 1 rfl rfl
theorem nd_X10_forgetLastText : me_X10_forgetLastText.1.cls ≠ "java/lang/invoke/MethodHandle" ∧ me_X10_forgetLastText.1.cls ≠ "java/lang/invoke/VarHandle" ∧ (parseMethodDescriptor me_X10_forgetLastText.1.desc).map (fun d => d.parameters.length) = some 0 := by decide +kernel
theorem iv_X10_forgetLastText : Cond.instanceMethod me_X10_forgetLastText.1 ∈ pm_T ∧ Cond.selects me_X10_forgetLastText.1.cls me_X10_forgetLastText.1 me_X10_forgetLastText.1 ∈ pm_T := ⟨pm_i2 105 rfl rfl, pm_i0 0 rfl rfl⟩
theorem cd_X10_answerForTokens : Cond.code me_X10_answerForTokens.1 me_X10_answerForTokens.2.1 me_X10_answerForTokens.2.2.1 me_X10_answerForTokens.2.2.2 ∈ pm_T := pm_i2 218 rfl rfl
theorem in_X10_answerForTokens : Cond.initialized me_X10_answerForTokens.1.cls ∈ pm_T := pm_i1 1 rfl rfl
theorem nd_X10_answerForTokens : me_X10_answerForTokens.1.cls ≠ "java/lang/invoke/MethodHandle" ∧ me_X10_answerForTokens.1.cls ≠ "java/lang/invoke/VarHandle" ∧ (parseMethodDescriptor me_X10_answerForTokens.1.desc).map (fun d => d.parameters.length) = some 0 := by decide +kernel
theorem iv_X10_answerForTokens : Cond.instanceMethod me_X10_answerForTokens.1 ∈ pm_T ∧ Cond.selects me_X10_answerForTokens.1.cls me_X10_answerForTokens.1 me_X10_answerForTokens.1 ∈ pm_T := ⟨pm_i2 217 rfl rfl, pm_i0 7 rfl rfl⟩
theorem cd_X10_fault : Cond.code me_X10_fault.1 me_X10_fault.2.1 me_X10_fault.2.2.1 me_X10_fault.2.2.2 ∈ pm_T := pm_i3 112 rfl rfl
theorem in_X10_fault : Cond.initialized me_X10_fault.1.cls ∈ pm_T := pm_i1 1 rfl rfl
theorem nd_X10_fault : me_X10_fault.1.cls ≠ "java/lang/invoke/MethodHandle" ∧ me_X10_fault.1.cls ≠ "java/lang/invoke/VarHandle" ∧ (parseMethodDescriptor me_X10_fault.1.desc).map (fun d => d.parameters.length) = some 2 := by decide +kernel
theorem iv_X10_fault : Cond.instanceMethod me_X10_fault.1 ∈ pm_T ∧ Cond.selects me_X10_fault.1.cls me_X10_fault.1 me_X10_fault.1 ∈ pm_T := ⟨pm_i3 111 rfl rfl, pm_i0 28 rfl rfl⟩
theorem cd_X10_writeSlice : Cond.code me_X10_writeSlice.1 me_X10_writeSlice.2.1 me_X10_writeSlice.2.2.1 me_X10_writeSlice.2.2.2 ∈ pm_T := pm_i4 199 rfl rfl
theorem in_X10_writeSlice : Cond.initialized me_X10_writeSlice.1.cls ∈ pm_T := pm_i1 1 rfl rfl
theorem nd_X10_writeSlice : me_X10_writeSlice.1.cls ≠ "java/lang/invoke/MethodHandle" ∧ me_X10_writeSlice.1.cls ≠ "java/lang/invoke/VarHandle" ∧ (parseMethodDescriptor me_X10_writeSlice.1.desc).map (fun d => d.parameters.length) = some 0 := by decide +kernel
theorem iv_X10_writeSlice : Cond.instanceMethod me_X10_writeSlice.1 ∈ pm_T ∧ Cond.selects me_X10_writeSlice.1.cls me_X10_writeSlice.1 me_X10_writeSlice.1 ∈ pm_T := ⟨pm_i4 198 rfl rfl, pm_i0 53 rfl rfl⟩
theorem cd_X11_init : Cond.code me_X11_init.1 me_X11_init.2.1 me_X11_init.2.2.1 me_X11_init.2.2.2 ∈ pm_T := pm_i5 12 rfl rfl
theorem in_X11_init : Cond.initialized me_X11_init.1.cls ∈ pm_T := pm_i1 13 rfl rfl
theorem nd_X11_init : me_X11_init.1.cls ≠ "java/lang/invoke/MethodHandle" ∧ me_X11_init.1.cls ≠ "java/lang/invoke/VarHandle" ∧ (parseMethodDescriptor me_X11_init.1.desc).map (fun d => d.parameters.length) = some 0 := by decide +kernel
theorem iv_X11_init : me_X11_init.1.name = "<init>" ∧ Cond.instanceMethod me_X11_init.1 ∈ pm_T ∧ me_X11_init.2.2.2 = none := ⟨rfl, pm_i5 11 rfl rfl, rfl⟩
theorem cd_X11_put : Cond.code me_X11_put.1 me_X11_put.2.1 me_X11_put.2.2.1 me_X11_put.2.2.2 ∈ pm_T := pm_i5 195 rfl rfl
theorem in_X11_put : Cond.initialized me_X11_put.1.cls ∈ pm_T := pm_i1 13 rfl rfl
theorem nd_X11_put : me_X11_put.1.cls ≠ "java/lang/invoke/MethodHandle" ∧ me_X11_put.1.cls ≠ "java/lang/invoke/VarHandle" ∧ (parseMethodDescriptor me_X11_put.1.desc).map (fun d => d.parameters.length) = some 2 := by decide +kernel
theorem iv_X11_put : Cond.instanceMethod me_X11_put.1 ∈ pm_T ∧ Cond.selects me_X11_put.1.cls me_X11_put.1 me_X11_put.1 ∈ pm_T := ⟨pm_i5 193 rfl rfl, pm_i5 194 rfl rfl⟩
theorem cd_X11_here : Cond.code me_X11_here.1 me_X11_here.2.1 me_X11_here.2.2.1 me_X11_here.2.2.2 ∈ pm_T := pm_i5 207 rfl rfl
theorem in_X11_here : Cond.initialized me_X11_here.1.cls ∈ pm_T := pm_i1 13 rfl rfl
theorem nd_X11_here : me_X11_here.1.cls ≠ "java/lang/invoke/MethodHandle" ∧ me_X11_here.1.cls ≠ "java/lang/invoke/VarHandle" ∧ (parseMethodDescriptor me_X11_here.1.desc).map (fun d => d.parameters.length) = some 1 := by decide +kernel
theorem iv_X11_here : Cond.instanceMethod me_X11_here.1 ∈ pm_T ∧ Cond.selects me_X11_here.1.cls me_X11_here.1 me_X11_here.1 ∈ pm_T := ⟨pm_i5 206 rfl rfl, pm_i0 55 rfl rfl⟩
theorem cd_X11_isLetter : Cond.code me_X11_isLetter.1 me_X11_isLetter.2.1 me_X11_isLetter.2.2.1 me_X11_isLetter.2.2.2 ∈ pm_T := pm_i5 210 rfl rfl
theorem in_X11_isLetter : Cond.initialized me_X11_isLetter.1.cls ∈ pm_T := pm_i1 13 rfl rfl
theorem nd_X11_isLetter : me_X11_isLetter.1.cls ≠ "java/lang/invoke/MethodHandle" ∧ me_X11_isLetter.1.cls ≠ "java/lang/invoke/VarHandle" ∧ (parseMethodDescriptor me_X11_isLetter.1.desc).map (fun d => d.parameters.length) = some 1 := by decide +kernel
theorem iv_X11_isLetter : Cond.static me_X11_isLetter.1 ∈ pm_T := pm_i5 209 rfl rfl
theorem cd_X11_isDigit : Cond.code me_X11_isDigit.1 me_X11_isDigit.2.1 me_X11_isDigit.2.2.1 me_X11_isDigit.2.2.2 ∈ pm_T := pm_i5 213 rfl rfl
theorem in_X11_isDigit : Cond.initialized me_X11_isDigit.1.cls ∈ pm_T := pm_i1 13 rfl rfl
theorem nd_X11_isDigit : me_X11_isDigit.1.cls ≠ "java/lang/invoke/MethodHandle" ∧ me_X11_isDigit.1.cls ≠ "java/lang/invoke/VarHandle" ∧ (parseMethodDescriptor me_X11_isDigit.1.desc).map (fun d => d.parameters.length) = some 1 := by decide +kernel
theorem iv_X11_isDigit : Cond.static me_X11_isDigit.1 ∈ pm_T := pm_i5 212 rfl rfl
theorem cd_X11_wordOf : Cond.code me_X11_wordOf.1 me_X11_wordOf.2.1 me_X11_wordOf.2.2.1 me_X11_wordOf.2.2.2 ∈ pm_T := pm_i5 217 rfl rfl
theorem in_X11_wordOf : Cond.initialized me_X11_wordOf.1.cls ∈ pm_T := pm_i1 13 rfl rfl
theorem nd_X11_wordOf : me_X11_wordOf.1.cls ≠ "java/lang/invoke/MethodHandle" ∧ me_X11_wordOf.1.cls ≠ "java/lang/invoke/VarHandle" ∧ (parseMethodDescriptor me_X11_wordOf.1.desc).map (fun d => d.parameters.length) = some 0 := by decide +kernel
theorem iv_X11_wordOf : Cond.instanceMethod me_X11_wordOf.1 ∈ pm_T ∧ Cond.selects me_X11_wordOf.1.cls me_X11_wordOf.1 me_X11_wordOf.1 ∈ pm_T := ⟨pm_i5 216 rfl rfl, pm_i0 56 rfl rfl⟩
theorem cd_X11_look : Cond.code me_X11_look.1 me_X11_look.2.1 me_X11_look.2.2.1 me_X11_look.2.2.2 ∈ pm_T := pm_i5 203 rfl rfl
theorem in_X11_look : Cond.initialized me_X11_look.1.cls ∈ pm_T := pm_i1 13 rfl rfl
theorem nd_X11_look : me_X11_look.1.cls ≠ "java/lang/invoke/MethodHandle" ∧ me_X11_look.1.cls ≠ "java/lang/invoke/VarHandle" ∧ (parseMethodDescriptor me_X11_look.1.desc).map (fun d => d.parameters.length) = some 0 := by decide +kernel
theorem iv_X11_look : Cond.instanceMethod me_X11_look.1 ∈ pm_T ∧ Cond.selects me_X11_look.1.cls me_X11_look.1 me_X11_look.1 ∈ pm_T := ⟨pm_i5 202 rfl rfl, pm_i0 54 rfl rfl⟩
theorem cd_X11_need : Cond.code me_X11_need.1 me_X11_need.2.1 me_X11_need.2.2.1 me_X11_need.2.2.2 ∈ pm_T := pm_i6 0 rfl rfl
theorem in_X11_need : Cond.initialized me_X11_need.1.cls ∈ pm_T := pm_i1 13 rfl rfl
theorem nd_X11_need : me_X11_need.1.cls ≠ "java/lang/invoke/MethodHandle" ∧ me_X11_need.1.cls ≠ "java/lang/invoke/VarHandle" ∧ (parseMethodDescriptor me_X11_need.1.desc).map (fun d => d.parameters.length) = some 1 := by decide +kernel
theorem iv_X11_need : Cond.instanceMethod me_X11_need.1 ∈ pm_T ∧ Cond.selects me_X11_need.1.cls me_X11_need.1 me_X11_need.1 ∈ pm_T := ⟨pm_i5 239 rfl rfl, pm_i0 59 rfl rfl⟩
theorem cd_X11_pass : Cond.code me_X11_pass.1 me_X11_pass.2.1 me_X11_pass.2.2.1 me_X11_pass.2.2.2 ∈ pm_T := pm_i6 12 rfl rfl
theorem in_X11_pass : Cond.initialized me_X11_pass.1.cls ∈ pm_T := pm_i1 13 rfl rfl
theorem nd_X11_pass : me_X11_pass.1.cls ≠ "java/lang/invoke/MethodHandle" ∧ me_X11_pass.1.cls ≠ "java/lang/invoke/VarHandle" ∧ (parseMethodDescriptor me_X11_pass.1.desc).map (fun d => d.parameters.length) = some 1 := by decide +kernel
theorem iv_X11_pass : Cond.instanceMethod me_X11_pass.1 ∈ pm_T ∧ Cond.selects me_X11_pass.1.cls me_X11_pass.1 me_X11_pass.1 ∈ pm_T := ⟨pm_i6 11 rfl rfl, pm_i0 62 rfl rfl⟩
theorem cd_X11_take : Cond.code me_X11_take.1 me_X11_take.2.1 me_X11_take.2.2.1 me_X11_take.2.2.2 ∈ pm_T := pm_i6 16 rfl rfl
theorem in_X11_take : Cond.initialized me_X11_take.1.cls ∈ pm_T := pm_i1 13 rfl rfl
theorem nd_X11_take : me_X11_take.1.cls ≠ "java/lang/invoke/MethodHandle" ∧ me_X11_take.1.cls ≠ "java/lang/invoke/VarHandle" ∧ (parseMethodDescriptor me_X11_take.1.desc).map (fun d => d.parameters.length) = some 2 := by decide +kernel
theorem iv_X11_take : Cond.instanceMethod me_X11_take.1 ∈ pm_T ∧ Cond.selects me_X11_take.1.cls me_X11_take.1 me_X11_take.1 ∈ pm_T := ⟨pm_i6 15 rfl rfl, pm_i0 63 rfl rfl⟩
theorem cd_X11_make : Cond.code me_X11_make.1 me_X11_make.2.1 me_X11_make.2.2.1 me_X11_make.2.2.2 ∈ pm_T := pm_i6 8 rfl rfl
theorem in_X11_make : Cond.initialized me_X11_make.1.cls ∈ pm_T := pm_i1 13 rfl rfl
theorem nd_X11_make : me_X11_make.1.cls ≠ "java/lang/invoke/MethodHandle" ∧ me_X11_make.1.cls ≠ "java/lang/invoke/VarHandle" ∧ (parseMethodDescriptor me_X11_make.1.desc).map (fun d => d.parameters.length) = some 1 := by decide +kernel
theorem iv_X11_make : Cond.instanceMethod me_X11_make.1 ∈ pm_T ∧ Cond.selects me_X11_make.1.cls me_X11_make.1 me_X11_make.1 ∈ pm_T := ⟨pm_i6 7 rfl rfl, pm_i0 61 rfl rfl⟩
theorem cd_X11_enter : Cond.code me_X11_enter.1 me_X11_enter.2.1 me_X11_enter.2.2.1 me_X11_enter.2.2.2 ∈ pm_T := pm_i5 236 rfl rfl
theorem in_X11_enter : Cond.initialized me_X11_enter.1.cls ∈ pm_T := pm_i1 13 rfl rfl
theorem nd_X11_enter : me_X11_enter.1.cls ≠ "java/lang/invoke/MethodHandle" ∧ me_X11_enter.1.cls ≠ "java/lang/invoke/VarHandle" ∧ (parseMethodDescriptor me_X11_enter.1.desc).map (fun d => d.parameters.length) = some 2 := by decide +kernel
theorem iv_X11_enter : Cond.instanceMethod me_X11_enter.1 ∈ pm_T ∧ Cond.selects me_X11_enter.1.cls me_X11_enter.1 me_X11_enter.1 ∈ pm_T := ⟨pm_i5 235 rfl rfl, pm_i0 58 rfl rfl⟩
theorem cd_X11_parse : Cond.code me_X11_parse.1 me_X11_parse.2.1 me_X11_parse.2.2.1 me_X11_parse.2.2.2 ∈ pm_T := pm_i5 232 rfl rfl
theorem in_X11_parse : Cond.initialized me_X11_parse.1.cls ∈ pm_T := pm_i1 13 rfl rfl
theorem nd_X11_parse : me_X11_parse.1.cls ≠ "java/lang/invoke/MethodHandle" ∧ me_X11_parse.1.cls ≠ "java/lang/invoke/VarHandle" ∧ (parseMethodDescriptor me_X11_parse.1.desc).map (fun d => d.parameters.length) = some 0 := by decide +kernel
theorem iv_X11_parse : Cond.instanceMethod me_X11_parse.1 ∈ pm_T ∧ Cond.selects me_X11_parse.1.cls me_X11_parse.1 me_X11_parse.1 ∈ pm_T := ⟨pm_i5 231 rfl rfl, pm_i0 57 rfl rfl⟩
theorem cd_X11_begins : Cond.code me_X11_begins.1 me_X11_begins.2.1 me_X11_begins.2.2.1 me_X11_begins.2.2.2 ∈ pm_T := pm_i6 4 rfl rfl
theorem in_X11_begins : Cond.initialized me_X11_begins.1.cls ∈ pm_T := pm_i1 13 rfl rfl
theorem nd_X11_begins : me_X11_begins.1.cls ≠ "java/lang/invoke/MethodHandle" ∧ me_X11_begins.1.cls ≠ "java/lang/invoke/VarHandle" ∧ (parseMethodDescriptor me_X11_begins.1.desc).map (fun d => d.parameters.length) = some 0 := by decide +kernel
theorem iv_X11_begins : Cond.instanceMethod me_X11_begins.1 ∈ pm_T ∧ Cond.selects me_X11_begins.1.cls me_X11_begins.1 me_X11_begins.1 ∈ pm_T := ⟨pm_i6 3 rfl rfl, pm_i0 60 rfl rfl⟩
theorem cd_X11_atom : Cond.code me_X11_atom.1 me_X11_atom.2.1 me_X11_atom.2.2.1 me_X11_atom.2.2.2 ∈ pm_T := pm_i6 20 rfl rfl
theorem in_X11_atom : Cond.initialized me_X11_atom.1.cls ∈ pm_T := pm_i1 13 rfl rfl
theorem nd_X11_atom : me_X11_atom.1.cls ≠ "java/lang/invoke/MethodHandle" ∧ me_X11_atom.1.cls ≠ "java/lang/invoke/VarHandle" ∧ (parseMethodDescriptor me_X11_atom.1.desc).map (fun d => d.parameters.length) = some 0 := by decide +kernel
theorem iv_X11_atom : Cond.instanceMethod me_X11_atom.1 ∈ pm_T ∧ Cond.selects me_X11_atom.1.cls me_X11_atom.1 me_X11_atom.1 ∈ pm_T := ⟨pm_i6 19 rfl rfl, pm_i0 64 rfl rfl⟩
theorem cd_X11_single : Cond.code me_X11_single.1 me_X11_single.2.1 me_X11_single.2.2.1 me_X11_single.2.2.2 ∈ pm_T := pm_i6 24 rfl rfl
theorem in_X11_single : Cond.initialized me_X11_single.1.cls ∈ pm_T := pm_i1 13 rfl rfl
theorem nd_X11_single : me_X11_single.1.cls ≠ "java/lang/invoke/MethodHandle" ∧ me_X11_single.1.cls ≠ "java/lang/invoke/VarHandle" ∧ (parseMethodDescriptor me_X11_single.1.desc).map (fun d => d.parameters.length) = some 1 := by decide +kernel
theorem iv_X11_single : Cond.instanceMethod me_X11_single.1 ∈ pm_T ∧ Cond.selects me_X11_single.1.cls me_X11_single.1 me_X11_single.1 ∈ pm_T := ⟨pm_i6 23 rfl rfl, pm_i0 65 rfl rfl⟩
theorem cd_X11_called : Cond.code me_X11_called.1 me_X11_called.2.1 me_X11_called.2.2.1 me_X11_called.2.2.2 ∈ pm_T := pm_i6 28 rfl rfl
theorem in_X11_called : Cond.initialized me_X11_called.1.cls ∈ pm_T := pm_i1 13 rfl rfl
theorem nd_X11_called : me_X11_called.1.cls ≠ "java/lang/invoke/MethodHandle" ∧ me_X11_called.1.cls ≠ "java/lang/invoke/VarHandle" ∧ (parseMethodDescriptor me_X11_called.1.desc).map (fun d => d.parameters.length) = some 0 := by decide +kernel
theorem iv_X11_called : Cond.instanceMethod me_X11_called.1 ∈ pm_T ∧ Cond.selects me_X11_called.1.cls me_X11_called.1 me_X11_called.1 ∈ pm_T := ⟨pm_i6 27 rfl rfl, pm_i0 66 rfl rfl⟩
theorem cd_X11_ended : Cond.code me_X11_ended.1 me_X11_ended.2.1 me_X11_ended.2.2.1 me_X11_ended.2.2.2 ∈ pm_T := pm_i6 32 rfl rfl
theorem in_X11_ended : Cond.initialized me_X11_ended.1.cls ∈ pm_T := pm_i1 13 rfl rfl
theorem nd_X11_ended : me_X11_ended.1.cls ≠ "java/lang/invoke/MethodHandle" ∧ me_X11_ended.1.cls ≠ "java/lang/invoke/VarHandle" ∧ (parseMethodDescriptor me_X11_ended.1.desc).map (fun d => d.parameters.length) = some 0 := by decide +kernel
theorem iv_X11_ended : Cond.instanceMethod me_X11_ended.1 ∈ pm_T ∧ Cond.selects me_X11_ended.1.cls me_X11_ended.1 me_X11_ended.1 ∈ pm_T := ⟨pm_i6 31 rfl rfl, pm_i0 67 rfl rfl⟩
theorem cd_X11_group : Cond.code me_X11_group.1 me_X11_group.2.1 me_X11_group.2.2.1 me_X11_group.2.2.2 ∈ pm_T := pm_i6 36 rfl rfl
theorem in_X11_group : Cond.initialized me_X11_group.1.cls ∈ pm_T := pm_i1 13 rfl rfl
theorem nd_X11_group : me_X11_group.1.cls ≠ "java/lang/invoke/MethodHandle" ∧ me_X11_group.1.cls ≠ "java/lang/invoke/VarHandle" ∧ (parseMethodDescriptor me_X11_group.1.desc).map (fun d => d.parameters.length) = some 1 := by decide +kernel
theorem iv_X11_group : Cond.instanceMethod me_X11_group.1 ∈ pm_T ∧ Cond.selects me_X11_group.1.cls me_X11_group.1 me_X11_group.1 ∈ pm_T := ⟨pm_i6 35 rfl rfl, pm_i0 68 rfl rfl⟩
theorem cd_X11_sameName : Cond.code me_X11_sameName.1 me_X11_sameName.2.1 me_X11_sameName.2.2.1 me_X11_sameName.2.2.2 ∈ pm_T := pm_i6 44 rfl rfl
theorem in_X11_sameName : Cond.initialized me_X11_sameName.1.cls ∈ pm_T := pm_i1 13 rfl rfl
theorem nd_X11_sameName : me_X11_sameName.1.cls ≠ "java/lang/invoke/MethodHandle" ∧ me_X11_sameName.1.cls ≠ "java/lang/invoke/VarHandle" ∧ (parseMethodDescriptor me_X11_sameName.1.desc).map (fun d => d.parameters.length) = some 2 := by decide +kernel
theorem iv_X11_sameName : Cond.instanceMethod me_X11_sameName.1 ∈ pm_T ∧ Cond.selects me_X11_sameName.1.cls me_X11_sameName.1 me_X11_sameName.1 ∈ pm_T := ⟨pm_i6 43 rfl rfl, pm_i0 70 rfl rfl⟩
theorem cd_X11_settle : Cond.code me_X11_settle.1 me_X11_settle.2.1 me_X11_settle.2.2.1 me_X11_settle.2.2.2 ∈ pm_T := pm_i6 40 rfl rfl
theorem in_X11_settle : Cond.initialized me_X11_settle.1.cls ∈ pm_T := pm_i1 13 rfl rfl
theorem nd_X11_settle : me_X11_settle.1.cls ≠ "java/lang/invoke/MethodHandle" ∧ me_X11_settle.1.cls ≠ "java/lang/invoke/VarHandle" ∧ (parseMethodDescriptor me_X11_settle.1.desc).map (fun d => d.parameters.length) = some 0 := by decide +kernel
theorem iv_X11_settle : Cond.instanceMethod me_X11_settle.1 ∈ pm_T ∧ Cond.selects me_X11_settle.1.cls me_X11_settle.1 me_X11_settle.1 ∈ pm_T := ⟨pm_i6 39 rfl rfl, pm_i0 69 rfl rfl⟩
theorem cd_X11_low : Cond.code me_X11_low.1 me_X11_low.2.1 me_X11_low.2.2.1 me_X11_low.2.2.2 ∈ pm_T := pm_i6 56 rfl rfl
theorem in_X11_low : Cond.initialized me_X11_low.1.cls ∈ pm_T := pm_i1 13 rfl rfl
theorem nd_X11_low : me_X11_low.1.cls ≠ "java/lang/invoke/MethodHandle" ∧ me_X11_low.1.cls ≠ "java/lang/invoke/VarHandle" ∧ (parseMethodDescriptor me_X11_low.1.desc).map (fun d => d.parameters.length) = some 1 := by decide +kernel
theorem iv_X11_low : Cond.instanceMethod me_X11_low.1 ∈ pm_T ∧ Cond.selects me_X11_low.1.cls me_X11_low.1 me_X11_low.1 ∈ pm_T := ⟨pm_i6 55 rfl rfl, pm_i0 73 rfl rfl⟩
theorem cd_X11_high : Cond.code me_X11_high.1 me_X11_high.2.1 me_X11_high.2.2.1 me_X11_high.2.2.2 ∈ pm_T := pm_i6 64 rfl rfl
theorem in_X11_high : Cond.initialized me_X11_high.1.cls ∈ pm_T := pm_i1 13 rfl rfl
theorem nd_X11_high : me_X11_high.1.cls ≠ "java/lang/invoke/MethodHandle" ∧ me_X11_high.1.cls ≠ "java/lang/invoke/VarHandle" ∧ (parseMethodDescriptor me_X11_high.1.desc).map (fun d => d.parameters.length) = some 1 := by decide +kernel
theorem iv_X11_high : Cond.instanceMethod me_X11_high.1 ∈ pm_T ∧ Cond.selects me_X11_high.1.cls me_X11_high.1 me_X11_high.1 ∈ pm_T := ⟨pm_i6 63 rfl rfl, pm_i0 75 rfl rfl⟩
theorem cd_X11_below : Cond.code me_X11_below.1 me_X11_below.2.1 me_X11_below.2.2.1 me_X11_below.2.2.2 ∈ pm_T := pm_i6 60 rfl rfl
theorem in_X11_below : Cond.initialized me_X11_below.1.cls ∈ pm_T := pm_i1 13 rfl rfl
theorem nd_X11_below : me_X11_below.1.cls ≠ "java/lang/invoke/MethodHandle" ∧ me_X11_below.1.cls ≠ "java/lang/invoke/VarHandle" ∧ (parseMethodDescriptor me_X11_below.1.desc).map (fun d => d.parameters.length) = some 1 := by decide +kernel
theorem iv_X11_below : Cond.instanceMethod me_X11_below.1 ∈ pm_T ∧ Cond.selects me_X11_below.1.cls me_X11_below.1 me_X11_below.1 ∈ pm_T := ⟨pm_i6 59 rfl rfl, pm_i0 74 rfl rfl⟩
theorem cd_X11_holds : Cond.code me_X11_holds.1 me_X11_holds.2.1 me_X11_holds.2.2.1 me_X11_holds.2.2.2 ∈ pm_T := pm_i6 72 rfl rfl
theorem in_X11_holds : Cond.initialized me_X11_holds.1.cls ∈ pm_T := pm_i1 13 rfl rfl
theorem nd_X11_holds : me_X11_holds.1.cls ≠ "java/lang/invoke/MethodHandle" ∧ me_X11_holds.1.cls ≠ "java/lang/invoke/VarHandle" ∧ (parseMethodDescriptor me_X11_holds.1.desc).map (fun d => d.parameters.length) = some 2 := by decide +kernel
theorem iv_X11_holds : Cond.instanceMethod me_X11_holds.1 ∈ pm_T ∧ Cond.selects me_X11_holds.1.cls me_X11_holds.1 me_X11_holds.1 ∈ pm_T := ⟨pm_i6 71 rfl rfl, pm_i0 77 rfl rfl⟩
theorem cd_X11_copyWith : Cond.code me_X11_copyWith.1 me_X11_copyWith.2.1 me_X11_copyWith.2.2.1 me_X11_copyWith.2.2.2 ∈ pm_T := pm_i6 68 rfl rfl
theorem in_X11_copyWith : Cond.initialized me_X11_copyWith.1.cls ∈ pm_T := pm_i1 13 rfl rfl
theorem nd_X11_copyWith : me_X11_copyWith.1.cls ≠ "java/lang/invoke/MethodHandle" ∧ me_X11_copyWith.1.cls ≠ "java/lang/invoke/VarHandle" ∧ (parseMethodDescriptor me_X11_copyWith.1.desc).map (fun d => d.parameters.length) = some 2 := by decide +kernel
theorem iv_X11_copyWith : Cond.instanceMethod me_X11_copyWith.1 ∈ pm_T ∧ Cond.selects me_X11_copyWith.1.cls me_X11_copyWith.1 me_X11_copyWith.1 ∈ pm_T := ⟨pm_i6 67 rfl rfl, pm_i0 76 rfl rfl⟩
theorem cd_X11_open : Cond.code me_X11_open.1 me_X11_open.2.1 me_X11_open.2.2.1 me_X11_open.2.2.2 ∈ pm_T := pm_i6 52 rfl rfl
theorem in_X11_open : Cond.initialized me_X11_open.1.cls ∈ pm_T := pm_i1 13 rfl rfl
theorem nd_X11_open : me_X11_open.1.cls ≠ "java/lang/invoke/MethodHandle" ∧ me_X11_open.1.cls ≠ "java/lang/invoke/VarHandle" ∧ (parseMethodDescriptor me_X11_open.1.desc).map (fun d => d.parameters.length) = some 1 := by decide +kernel
theorem iv_X11_open : Cond.instanceMethod me_X11_open.1 ∈ pm_T ∧ Cond.selects me_X11_open.1.cls me_X11_open.1 me_X11_open.1 ∈ pm_T := ⟨pm_i6 51 rfl rfl, pm_i0 72 rfl rfl⟩
theorem cd_X11_expand : Cond.code me_X11_expand.1 me_X11_expand.2.1 me_X11_expand.2.2.1 me_X11_expand.2.2.2 ∈ pm_T := pm_i6 48 rfl rfl
theorem in_X11_expand : Cond.initialized me_X11_expand.1.cls ∈ pm_T := pm_i1 13 rfl rfl
theorem nd_X11_expand : me_X11_expand.1.cls ≠ "java/lang/invoke/MethodHandle" ∧ me_X11_expand.1.cls ≠ "java/lang/invoke/VarHandle" ∧ (parseMethodDescriptor me_X11_expand.1.desc).map (fun d => d.parameters.length) = some 0 := by decide +kernel
theorem iv_X11_expand : Cond.instanceMethod me_X11_expand.1 ∈ pm_T ∧ Cond.selects me_X11_expand.1.cls me_X11_expand.1 me_X11_expand.1 ∈ pm_T := ⟨pm_i6 47 rfl rfl, pm_i0 71 rfl rfl⟩
theorem cd_X11_typeOf : Cond.code me_X11_typeOf.1 me_X11_typeOf.2.1 me_X11_typeOf.2.2.1 me_X11_typeOf.2.2.2 ∈ pm_T := pm_i6 88 rfl rfl
theorem in_X11_typeOf : Cond.initialized me_X11_typeOf.1.cls ∈ pm_T := pm_i1 13 rfl rfl
theorem nd_X11_typeOf : me_X11_typeOf.1.cls ≠ "java/lang/invoke/MethodHandle" ∧ me_X11_typeOf.1.cls ≠ "java/lang/invoke/VarHandle" ∧ (parseMethodDescriptor me_X11_typeOf.1.desc).map (fun d => d.parameters.length) = some 2 := by decide +kernel
theorem iv_X11_typeOf : Cond.instanceMethod me_X11_typeOf.1 ∈ pm_T ∧ Cond.selects me_X11_typeOf.1.cls me_X11_typeOf.1 me_X11_typeOf.1 ∈ pm_T := ⟨pm_i6 87 rfl rfl, pm_i0 81 rfl rfl⟩
theorem cd_X11_nameOf : Cond.code me_X11_nameOf.1 me_X11_nameOf.2.1 me_X11_nameOf.2.2.1 me_X11_nameOf.2.2.2 ∈ pm_T := pm_i6 100 rfl rfl
theorem in_X11_nameOf : Cond.initialized me_X11_nameOf.1.cls ∈ pm_T := pm_i1 13 rfl rfl
theorem nd_X11_nameOf : me_X11_nameOf.1.cls ≠ "java/lang/invoke/MethodHandle" ∧ me_X11_nameOf.1.cls ≠ "java/lang/invoke/VarHandle" ∧ (parseMethodDescriptor me_X11_nameOf.1.desc).map (fun d => d.parameters.length) = some 2 := by decide +kernel
theorem iv_X11_nameOf : Cond.instanceMethod me_X11_nameOf.1 ∈ pm_T ∧ Cond.selects me_X11_nameOf.1.cls me_X11_nameOf.1 me_X11_nameOf.1 ∈ pm_T := ⟨pm_i6 99 rfl rfl, pm_i0 84 rfl rfl⟩
theorem cd_X11_fresh : Cond.code me_X11_fresh.1 me_X11_fresh.2.1 me_X11_fresh.2.2.1 me_X11_fresh.2.2.2 ∈ pm_T := pm_i6 80 rfl rfl
theorem in_X11_fresh : Cond.initialized me_X11_fresh.1.cls ∈ pm_T := pm_i1 13 rfl rfl
theorem nd_X11_fresh : me_X11_fresh.1.cls ≠ "java/lang/invoke/MethodHandle" ∧ me_X11_fresh.1.cls ≠ "java/lang/invoke/VarHandle" ∧ (parseMethodDescriptor me_X11_fresh.1.desc).map (fun d => d.parameters.length) = some 3 := by decide +kernel
theorem iv_X11_fresh : Cond.instanceMethod me_X11_fresh.1 ∈ pm_T ∧ Cond.selects me_X11_fresh.1.cls me_X11_fresh.1 me_X11_fresh.1 ∈ pm_T := ⟨pm_i6 79 rfl rfl, pm_i0 79 rfl rfl⟩
theorem cd_X11_root : Cond.code me_X11_root.1 me_X11_root.2.1 me_X11_root.2.2.1 me_X11_root.2.2.2 ∈ pm_T := pm_i6 96 rfl rfl
theorem in_X11_root : Cond.initialized me_X11_root.1.cls ∈ pm_T := pm_i1 13 rfl rfl
theorem nd_X11_root : me_X11_root.1.cls ≠ "java/lang/invoke/MethodHandle" ∧ me_X11_root.1.cls ≠ "java/lang/invoke/VarHandle" ∧ (parseMethodDescriptor me_X11_root.1.desc).map (fun d => d.parameters.length) = some 1 := by decide +kernel
theorem iv_X11_root : Cond.instanceMethod me_X11_root.1 ∈ pm_T ∧ Cond.selects me_X11_root.1.cls me_X11_root.1 me_X11_root.1 ∈ pm_T := ⟨pm_i6 95 rfl rfl, pm_i0 83 rfl rfl⟩
theorem cd_X11_same : Cond.code me_X11_same.1 me_X11_same.2.1 me_X11_same.2.2.1 me_X11_same.2.2.2 ∈ pm_T := pm_i6 92 rfl rfl
theorem in_X11_same : Cond.initialized me_X11_same.1.cls ∈ pm_T := pm_i1 13 rfl rfl
theorem nd_X11_same : me_X11_same.1.cls ≠ "java/lang/invoke/MethodHandle" ∧ me_X11_same.1.cls ≠ "java/lang/invoke/VarHandle" ∧ (parseMethodDescriptor me_X11_same.1.desc).map (fun d => d.parameters.length) = some 2 := by decide +kernel
theorem iv_X11_same : Cond.instanceMethod me_X11_same.1 ∈ pm_T ∧ Cond.selects me_X11_same.1.cls me_X11_same.1 me_X11_same.1 ∈ pm_T := ⟨pm_i6 91 rfl rfl, pm_i0 82 rfl rfl⟩
theorem cd_X11_ask : Cond.code me_X11_ask.1 me_X11_ask.2.1 me_X11_ask.2.2.1 me_X11_ask.2.2.2 ∈ pm_T := pm_i6 84 rfl rfl
theorem in_X11_ask : Cond.initialized me_X11_ask.1.cls ∈ pm_T := pm_i1 13 rfl rfl
theorem nd_X11_ask : me_X11_ask.1.cls ≠ "java/lang/invoke/MethodHandle" ∧ me_X11_ask.1.cls ≠ "java/lang/invoke/VarHandle" ∧ (parseMethodDescriptor me_X11_ask.1.desc).map (fun d => d.parameters.length) = some 3 := by decide +kernel
theorem iv_X11_ask : Cond.instanceMethod me_X11_ask.1 ∈ pm_T ∧ Cond.selects me_X11_ask.1.cls me_X11_ask.1 me_X11_ask.1 ∈ pm_T := ⟨pm_i6 83 rfl rfl, pm_i0 80 rfl rfl⟩
theorem cd_X11_isFine : Cond.code me_X11_isFine.1 me_X11_isFine.2.1 me_X11_isFine.2.2.1 me_X11_isFine.2.2.2 ∈ pm_T := pm_i6 76 rfl rfl
theorem in_X11_isFine : Cond.initialized me_X11_isFine.1.cls ∈ pm_T := pm_i1 13 rfl rfl
theorem nd_X11_isFine : me_X11_isFine.1.cls ≠ "java/lang/invoke/MethodHandle" ∧ me_X11_isFine.1.cls ≠ "java/lang/invoke/VarHandle" ∧ (parseMethodDescriptor me_X11_isFine.1.desc).map (fun d => d.parameters.length) = some 0 := by decide +kernel
theorem iv_X11_isFine : Cond.instanceMethod me_X11_isFine.1 ∈ pm_T ∧ Cond.selects me_X11_isFine.1.cls me_X11_isFine.1 me_X11_isFine.1 ∈ pm_T := ⟨pm_i6 75 rfl rfl, pm_i0 78 rfl rfl⟩
theorem cd_X11_isFinite : Cond.code me_X11_isFinite.1 me_X11_isFinite.2.1 me_X11_isFinite.2.2.1 me_X11_isFinite.2.2.2 ∈ pm_T := pm_i6 104 rfl rfl
theorem in_X11_isFinite : Cond.initialized me_X11_isFinite.1.cls ∈ pm_T := pm_i1 13 rfl rfl
theorem nd_X11_isFinite : me_X11_isFinite.1.cls ≠ "java/lang/invoke/MethodHandle" ∧ me_X11_isFinite.1.cls ≠ "java/lang/invoke/VarHandle" ∧ (parseMethodDescriptor me_X11_isFinite.1.desc).map (fun d => d.parameters.length) = some 0 := by decide +kernel
theorem iv_X11_isFinite : Cond.instanceMethod me_X11_isFinite.1 ∈ pm_T ∧ Cond.selects me_X11_isFinite.1.cls me_X11_isFinite.1 me_X11_isFinite.1 ∈ pm_T := ⟨pm_i6 103 rfl rfl, pm_i0 85 rfl rfl⟩
theorem cd_X11_write : Cond.code me_X11_write.1 me_X11_write.2.1 me_X11_write.2.2.1 me_X11_write.2.2.2 ∈ pm_T := pm_i6 121 rfl rfl
theorem in_X11_write : Cond.initialized me_X11_write.1.cls ∈ pm_T := pm_i1 13 rfl rfl
theorem nd_X11_write : me_X11_write.1.cls ≠ "java/lang/invoke/MethodHandle" ∧ me_X11_write.1.cls ≠ "java/lang/invoke/VarHandle" ∧ (parseMethodDescriptor me_X11_write.1.desc).map (fun d => d.parameters.length) = some 1 := by decide +kernel
theorem iv_X11_write : Cond.instanceMethod me_X11_write.1 ∈ pm_T ∧ Cond.selects me_X11_write.1.cls me_X11_write.1 me_X11_write.1 ∈ pm_T := ⟨pm_i6 120 rfl rfl, pm_i0 88 rfl rfl⟩
theorem cd_X11_writeWord : Cond.code me_X11_writeWord.1 me_X11_writeWord.2.1 me_X11_writeWord.2.2.1 me_X11_writeWord.2.2.2 ∈ pm_T := pm_i6 116 rfl rfl
theorem in_X11_writeWord : Cond.initialized me_X11_writeWord.1.cls ∈ pm_T := pm_i1 13 rfl rfl
theorem nd_X11_writeWord : me_X11_writeWord.1.cls ≠ "java/lang/invoke/MethodHandle" ∧ me_X11_writeWord.1.cls ≠ "java/lang/invoke/VarHandle" ∧ (parseMethodDescriptor me_X11_writeWord.1.desc).map (fun d => d.parameters.length) = some 1 := by decide +kernel
theorem iv_X11_writeWord : Cond.instanceMethod me_X11_writeWord.1 ∈ pm_T ∧ Cond.selects me_X11_writeWord.1.cls me_X11_writeWord.1 me_X11_writeWord.1 ∈ pm_T := ⟨pm_i6 115 rfl rfl, pm_i0 87 rfl rfl⟩
theorem cd_X11_letter : Cond.code me_X11_letter.1 me_X11_letter.2.1 me_X11_letter.2.2.1 me_X11_letter.2.2.2 ∈ pm_T := pm_i6 127 rfl rfl
theorem in_X11_letter : Cond.initialized me_X11_letter.1.cls ∈ pm_T := pm_i1 13 rfl rfl
theorem nd_X11_letter : me_X11_letter.1.cls ≠ "java/lang/invoke/MethodHandle" ∧ me_X11_letter.1.cls ≠ "java/lang/invoke/VarHandle" ∧ (parseMethodDescriptor me_X11_letter.1.desc).map (fun d => d.parameters.length) = some 1 := by decide +kernel
theorem iv_X11_letter : Cond.instanceMethod me_X11_letter.1 ∈ pm_T ∧ Cond.selects me_X11_letter.1.cls me_X11_letter.1 me_X11_letter.1 ∈ pm_T := ⟨pm_i6 126 rfl rfl, pm_i0 89 rfl rfl⟩
theorem cd_X11_writeType : Cond.code me_X11_writeType.1 me_X11_writeType.2.1 me_X11_writeType.2.2.1 me_X11_writeType.2.2.2 ∈ pm_T := pm_i6 108 rfl rfl
theorem in_X11_writeType : Cond.initialized me_X11_writeType.1.cls ∈ pm_T := pm_i1 13 rfl rfl
theorem nd_X11_writeType : me_X11_writeType.1.cls ≠ "java/lang/invoke/MethodHandle" ∧ me_X11_writeType.1.cls ≠ "java/lang/invoke/VarHandle" ∧ (parseMethodDescriptor me_X11_writeType.1.desc).map (fun d => d.parameters.length) = some 1 := by decide +kernel
theorem iv_X11_writeType : Cond.instanceMethod me_X11_writeType.1 ∈ pm_T ∧ Cond.selects me_X11_writeType.1.cls me_X11_writeType.1 me_X11_writeType.1 ∈ pm_T := ⟨pm_i6 107 rfl rfl, pm_i0 86 rfl rfl⟩
theorem cd_X11_writeSlice : Cond.code me_X11_writeSlice.1 me_X11_writeSlice.2.1 me_X11_writeSlice.2.2.1 me_X11_writeSlice.2.2.2 ∈ pm_T := pm_i6 131 rfl rfl
theorem in_X11_writeSlice : Cond.initialized me_X11_writeSlice.1.cls ∈ pm_T := pm_i1 13 rfl rfl
theorem nd_X11_writeSlice : me_X11_writeSlice.1.cls ≠ "java/lang/invoke/MethodHandle" ∧ me_X11_writeSlice.1.cls ≠ "java/lang/invoke/VarHandle" ∧ (parseMethodDescriptor me_X11_writeSlice.1.desc).map (fun d => d.parameters.length) = some 0 := by decide +kernel
theorem iv_X11_writeSlice : Cond.instanceMethod me_X11_writeSlice.1 ∈ pm_T ∧ Cond.selects me_X11_writeSlice.1.cls me_X11_writeSlice.1 me_X11_writeSlice.1 ∈ pm_T := ⟨pm_i6 130 rfl rfl, pm_i0 90 rfl rfl⟩
theorem cd_X11_judge : Cond.code me_X11_judge.1 me_X11_judge.2.1 me_X11_judge.2.2.1 me_X11_judge.2.2.2 ∈ pm_T := pm_i5 199 rfl rfl
theorem in_X11_judge : Cond.initialized me_X11_judge.1.cls ∈ pm_T := pm_i1 13 rfl rfl
theorem nd_X11_judge : me_X11_judge.1.cls ≠ "java/lang/invoke/MethodHandle" ∧ me_X11_judge.1.cls ≠ "java/lang/invoke/VarHandle" ∧ (parseMethodDescriptor me_X11_judge.1.desc).map (fun d => d.parameters.length) = some 0 := by decide +kernel
theorem iv_X11_judge : Cond.instanceMethod me_X11_judge.1 ∈ pm_T ∧ Cond.selects me_X11_judge.1.cls me_X11_judge.1 me_X11_judge.1 ∈ pm_T := ⟨pm_i5 197 rfl rfl, pm_i5 198 rfl rfl⟩
theorem cd_X11_place : Cond.code me_X11_place.1 me_X11_place.2.1 me_X11_place.2.2.1 me_X11_place.2.2.2 ∈ pm_T := pm_i6 138 rfl rfl
theorem in_X11_place : Cond.initialized me_X11_place.1.cls ∈ pm_T := pm_i1 13 rfl rfl
theorem nd_X11_place : me_X11_place.1.cls ≠ "java/lang/invoke/MethodHandle" ∧ me_X11_place.1.cls ≠ "java/lang/invoke/VarHandle" ∧ (parseMethodDescriptor me_X11_place.1.desc).map (fun d => d.parameters.length) = some 0 := by decide +kernel
theorem iv_X11_place : Cond.instanceMethod me_X11_place.1 ∈ pm_T ∧ Cond.selects me_X11_place.1.cls me_X11_place.1 me_X11_place.1 ∈ pm_T := ⟨pm_i6 136 rfl rfl, pm_i6 137 rfl rfl⟩
theorem cd_X11_isIn : Cond.code me_X11_isIn.1 me_X11_isIn.2.1 me_X11_isIn.2.2.1 me_X11_isIn.2.2.2 ∈ pm_T := pm_i6 142 rfl rfl
theorem in_X11_isIn : Cond.initialized me_X11_isIn.1.cls ∈ pm_T := pm_i1 13 rfl rfl
theorem nd_X11_isIn : me_X11_isIn.1.cls ≠ "java/lang/invoke/MethodHandle" ∧ me_X11_isIn.1.cls ≠ "java/lang/invoke/VarHandle" ∧ (parseMethodDescriptor me_X11_isIn.1.desc).map (fun d => d.parameters.length) = some 1 := by decide +kernel
theorem iv_X11_isIn : Cond.instanceMethod me_X11_isIn.1 ∈ pm_T ∧ Cond.selects me_X11_isIn.1.cls me_X11_isIn.1 me_X11_isIn.1 ∈ pm_T := ⟨pm_i6 140 rfl rfl, pm_i6 141 rfl rfl⟩
theorem cd_X11_fetch : Cond.code me_X11_fetch.1 me_X11_fetch.2.1 me_X11_fetch.2.2.1 me_X11_fetch.2.2.2 ∈ pm_T := pm_i6 146 rfl rfl
theorem in_X11_fetch : Cond.initialized me_X11_fetch.1.cls ∈ pm_T := pm_i1 13 rfl rfl
theorem nd_X11_fetch : me_X11_fetch.1.cls ≠ "java/lang/invoke/MethodHandle" ∧ me_X11_fetch.1.cls ≠ "java/lang/invoke/VarHandle" ∧ (parseMethodDescriptor me_X11_fetch.1.desc).map (fun d => d.parameters.length) = some 0 := by decide +kernel
theorem iv_X11_fetch : Cond.instanceMethod me_X11_fetch.1 ∈ pm_T ∧ Cond.selects me_X11_fetch.1.cls me_X11_fetch.1 me_X11_fetch.1 ∈ pm_T := ⟨pm_i6 144 rfl rfl, pm_i6 145 rfl rfl⟩
theorem cd_X11_count : Cond.code me_X11_count.1 me_X11_count.2.1 me_X11_count.2.2.1 me_X11_count.2.2.2 ∈ pm_T := pm_i6 150 rfl rfl
theorem in_X11_count : Cond.initialized me_X11_count.1.cls ∈ pm_T := pm_i1 13 rfl rfl
theorem nd_X11_count : me_X11_count.1.cls ≠ "java/lang/invoke/MethodHandle" ∧ me_X11_count.1.cls ≠ "java/lang/invoke/VarHandle" ∧ (parseMethodDescriptor me_X11_count.1.desc).map (fun d => d.parameters.length) = some 1 := by decide +kernel
theorem iv_X11_count : Cond.instanceMethod me_X11_count.1 ∈ pm_T ∧ Cond.selects me_X11_count.1.cls me_X11_count.1 me_X11_count.1 ∈ pm_T := ⟨pm_i6 148 rfl rfl, pm_i6 149 rfl rfl⟩
theorem cd_J9_max_7cf53 : Cond.code me_J9_max_7cf53.1 me_J9_max_7cf53.2.1 me_J9_max_7cf53.2.2.1 me_J9_max_7cf53.2.2.2 ∈ pm_T := pm_i1 77 rfl rfl
theorem in_J9_max_7cf53 : Cond.initialized me_J9_max_7cf53.1.cls ∈ pm_T := pm_i1 6 rfl rfl
theorem nd_J9_max_7cf53 : me_J9_max_7cf53.1.cls ≠ "java/lang/invoke/MethodHandle" ∧ me_J9_max_7cf53.1.cls ≠ "java/lang/invoke/VarHandle" ∧ (parseMethodDescriptor me_J9_max_7cf53.1.desc).map (fun d => d.parameters.length) = some 2 := by decide +kernel
theorem iv_J9_max_7cf53 : Cond.static me_J9_max_7cf53.1 ∈ pm_T := pm_i1 76 rfl rfl
theorem cd_J9_min_7cf53 : Cond.code me_J9_min_7cf53.1 me_J9_min_7cf53.2.1 me_J9_min_7cf53.2.2.1 me_J9_min_7cf53.2.2.2 ∈ pm_T := pm_i3 81 rfl rfl
theorem in_J9_min_7cf53 : Cond.initialized me_J9_min_7cf53.1.cls ∈ pm_T := pm_i1 6 rfl rfl
theorem nd_J9_min_7cf53 : me_J9_min_7cf53.1.cls ≠ "java/lang/invoke/MethodHandle" ∧ me_J9_min_7cf53.1.cls ≠ "java/lang/invoke/VarHandle" ∧ (parseMethodDescriptor me_J9_min_7cf53.1.desc).map (fun d => d.parameters.length) = some 2 := by decide +kernel
theorem iv_J9_min_7cf53 : Cond.static me_J9_min_7cf53.1 ∈ pm_T := pm_i3 80 rfl rfl
theorem cd_J0_length_8abf5 : Cond.code me_J0_length_8abf5.1 me_J0_length_8abf5.2.1 me_J0_length_8abf5.2.2.1 me_J0_length_8abf5.2.2.2 ∈ pm_T := pm_i2 162 rfl rfl
theorem in_J0_length_8abf5 : Cond.initialized me_J0_length_8abf5.1.cls ∈ pm_T := pm_i1 14 rfl rfl
theorem nd_J0_length_8abf5 : me_J0_length_8abf5.1.cls ≠ "java/lang/invoke/MethodHandle" ∧ me_J0_length_8abf5.1.cls ≠ "java/lang/invoke/VarHandle" ∧ (parseMethodDescriptor me_J0_length_8abf5.1.desc).map (fun d => d.parameters.length) = some 0 := by decide +kernel
theorem iv_J0_length_8abf5 : Cond.instanceMethod me_J0_length_8abf5.1 ∈ pm_T ∧ Cond.selects me_J0_length_8abf5.1.cls me_J0_length_8abf5.1 me_J0_length_8abf5.1 ∈ pm_T := ⟨pm_i2 160 rfl rfl, pm_i2 161 rfl rfl⟩
theorem cd_J0_charAt_5068e : Cond.code me_J0_charAt_5068e.1 me_J0_charAt_5068e.2.1 me_J0_charAt_5068e.2.2.1 me_J0_charAt_5068e.2.2.2 ∈ pm_T := pm_i2 172 rfl rfl
theorem in_J0_charAt_5068e : Cond.initialized me_J0_charAt_5068e.1.cls ∈ pm_T := pm_i1 14 rfl rfl
theorem nd_J0_charAt_5068e : me_J0_charAt_5068e.1.cls ≠ "java/lang/invoke/MethodHandle" ∧ me_J0_charAt_5068e.1.cls ≠ "java/lang/invoke/VarHandle" ∧ (parseMethodDescriptor me_J0_charAt_5068e.1.desc).map (fun d => d.parameters.length) = some 1 := by decide +kernel
theorem iv_J0_charAt_5068e : Cond.instanceMethod me_J0_charAt_5068e.1 ∈ pm_T ∧ Cond.selects me_J0_charAt_5068e.1.cls me_J0_charAt_5068e.1 me_J0_charAt_5068e.1 ∈ pm_T := ⟨pm_i2 170 rfl rfl, pm_i2 171 rfl rfl⟩
theorem cd_J0_coder_7d493 : Cond.code me_J0_coder_7d493.1 me_J0_coder_7d493.2.1 me_J0_coder_7d493.2.2.1 me_J0_coder_7d493.2.2.2 ∈ pm_T := pm_i2 166 rfl rfl
theorem in_J0_coder_7d493 : Cond.initialized me_J0_coder_7d493.1.cls ∈ pm_T := pm_i1 14 rfl rfl
theorem nd_J0_coder_7d493 : me_J0_coder_7d493.1.cls ≠ "java/lang/invoke/MethodHandle" ∧ me_J0_coder_7d493.1.cls ≠ "java/lang/invoke/VarHandle" ∧ (parseMethodDescriptor me_J0_coder_7d493.1.desc).map (fun d => d.parameters.length) = some 0 := by decide +kernel
theorem iv_J0_coder_7d493 : Cond.instanceMethod me_J0_coder_7d493.1 ∈ pm_T ∧ Cond.selects me_J0_coder_7d493.1.cls me_J0_coder_7d493.1 me_J0_coder_7d493.1 ∈ pm_T := ⟨pm_i2 164 rfl rfl, pm_i2 165 rfl rfl⟩
theorem cd_J0_isLatin1_aae02 : Cond.code me_J0_isLatin1_aae02.1 me_J0_isLatin1_aae02.2.1 me_J0_isLatin1_aae02.2.2.1 me_J0_isLatin1_aae02.2.2.2 ∈ pm_T := pm_i2 176 rfl rfl
theorem in_J0_isLatin1_aae02 : Cond.initialized me_J0_isLatin1_aae02.1.cls ∈ pm_T := pm_i1 14 rfl rfl
theorem nd_J0_isLatin1_aae02 : me_J0_isLatin1_aae02.1.cls ≠ "java/lang/invoke/MethodHandle" ∧ me_J0_isLatin1_aae02.1.cls ≠ "java/lang/invoke/VarHandle" ∧ (parseMethodDescriptor me_J0_isLatin1_aae02.1.desc).map (fun d => d.parameters.length) = some 0 := by decide +kernel
theorem iv_J0_isLatin1_aae02 : Cond.instanceMethod me_J0_isLatin1_aae02.1 ∈ pm_T ∧ Cond.selects me_J0_isLatin1_aae02.1.cls me_J0_isLatin1_aae02.1 me_J0_isLatin1_aae02.1 ∈ pm_T := ⟨pm_i2 174 rfl rfl, pm_i2 175 rfl rfl⟩
theorem cd_J0_checkIndex_df160 : Cond.code me_J0_checkIndex_df160.1 me_J0_checkIndex_df160.2.1 me_J0_checkIndex_df160.2.2.1 me_J0_checkIndex_df160.2.2.2 ∈ pm_T := pm_i2 182 rfl rfl
theorem in_J0_checkIndex_df160 : Cond.initialized me_J0_checkIndex_df160.1.cls ∈ pm_T := pm_i1 14 rfl rfl
theorem nd_J0_checkIndex_df160 : me_J0_checkIndex_df160.1.cls ≠ "java/lang/invoke/MethodHandle" ∧ me_J0_checkIndex_df160.1.cls ≠ "java/lang/invoke/VarHandle" ∧ (parseMethodDescriptor me_J0_checkIndex_df160.1.desc).map (fun d => d.parameters.length) = some 2 := by decide +kernel
theorem iv_J0_checkIndex_df160 : Cond.static me_J0_checkIndex_df160.1 ∈ pm_T := pm_i2 181 rfl rfl
theorem cd_J1_charAt_3b067 : Cond.code me_J1_charAt_3b067.1 me_J1_charAt_3b067.2.1 me_J1_charAt_3b067.2.2.1 me_J1_charAt_3b067.2.2.2 ∈ pm_T := pm_i2 179 rfl rfl
theorem in_J1_charAt_3b067 : Cond.initialized me_J1_charAt_3b067.1.cls ∈ pm_T := pm_i1 15 rfl rfl
theorem nd_J1_charAt_3b067 : me_J1_charAt_3b067.1.cls ≠ "java/lang/invoke/MethodHandle" ∧ me_J1_charAt_3b067.1.cls ≠ "java/lang/invoke/VarHandle" ∧ (parseMethodDescriptor me_J1_charAt_3b067.1.desc).map (fun d => d.parameters.length) = some 2 := by decide +kernel
theorem iv_J1_charAt_3b067 : Cond.static me_J1_charAt_3b067.1 ∈ pm_T := pm_i2 178 rfl rfl
theorem cd_J3_checkIndex_8e157 : Cond.code me_J3_checkIndex_8e157.1 me_J3_checkIndex_8e157.2.1 me_J3_checkIndex_8e157.2.2.1 me_J3_checkIndex_8e157.2.2.2 ∈ pm_T := pm_i2 187 rfl rfl
theorem in_J3_checkIndex_8e157 : Cond.initialized me_J3_checkIndex_8e157.1.cls ∈ pm_T := pm_i1 16 rfl rfl
theorem nd_J3_checkIndex_8e157 : me_J3_checkIndex_8e157.1.cls ≠ "java/lang/invoke/MethodHandle" ∧ me_J3_checkIndex_8e157.1.cls ≠ "java/lang/invoke/VarHandle" ∧ (parseMethodDescriptor me_J3_checkIndex_8e157.1.desc).map (fun d => d.parameters.length) = some 3 := by decide +kernel
theorem iv_J3_checkIndex_8e157 : Cond.static me_J3_checkIndex_8e157.1 ∈ pm_T := pm_i2 186 rfl rfl
theorem ml_L_9 : pm_ml "ErrorSlicesLaw" 9 me_X10_init 0 := ⟨pm_i1 20 rfl rfl, cd_X10_init, in_X10_init, nd_X10_init, by decide⟩
theorem ml_X10_18 : pm_ml "ErrorSlices" 18 me_X6_init 1 := ⟨pm_i1 42 rfl rfl, cd_X6_init, in_X6_init, nd_X6_init, by decide⟩
theorem ml_X10_27 : pm_ml "ErrorSlices" 27 me_X4_init 1 := ⟨pm_i1 65 rfl rfl, cd_X4_init, in_X4_init, nd_X4_init, by decide⟩
theorem ml_X4_13 : pm_ml "ErrorSlices$Parser" 13 me_X2_init 1 := ⟨pm_i1 71 rfl rfl, cd_X2_init, in_X2_init, nd_X2_init, by decide⟩
theorem ml_X2_9 : pm_ml "ErrorSlices$Nodes" 9 me_J9_max_7cf53 2 := ⟨pm_i1 75 rfl rfl, cd_J9_max_7cf53, in_J9_max_7cf53, nd_J9_max_7cf53, by decide⟩
theorem ml_X7_11 : pm_ml "ErrorSlices$Tree" 11 me_X2_init 1 := ⟨pm_i1 132 rfl rfl, cd_X2_init, in_X2_init, nd_X2_init, by decide⟩
theorem ml_X10_43 : pm_ml "ErrorSlices" 43 me_X1_init 1 := ⟨pm_i1 154 rfl rfl, cd_X1_init, in_X1_init, nd_X1_init, by decide⟩
theorem ml_X1_35 : pm_ml "ErrorSlices$Copies" 35 me_X7_nodes 0 := ⟨pm_i1 158 rfl rfl, cd_X7_nodes, in_X7_nodes, nd_X7_nodes, by decide⟩
theorem ml_X10_59 : pm_ml "ErrorSlices" 59 me_X0_init 3 := ⟨pm_i1 220 rfl rfl, cd_X0_init, in_X0_init, nd_X0_init, by decide⟩
theorem ml_X0_19 : pm_ml "ErrorSlices$Checker" 19 me_X7_nodes 0 := ⟨pm_i1 224 rfl rfl, cd_X7_nodes, in_X7_nodes, nd_X7_nodes, by decide⟩
theorem ml_X10_75 : pm_ml "ErrorSlices" 75 me_X8_init 2 := ⟨pm_i2 20 rfl rfl, cd_X8_init, in_X8_init, nd_X8_init, by decide⟩
theorem ml_X8_26 : pm_ml "ErrorSlices$TypeWriter" 26 me_X9_scratch 0 := ⟨pm_i2 24 rfl rfl, cd_X9_scratch, in_X9_scratch, nd_X9_scratch, by decide⟩
theorem ml_L_15 : pm_ml "ErrorSlicesLaw" 15 me_X10_put 2 := ⟨pm_i2 87 rfl rfl, cd_X10_put, in_X10_put, nd_X10_put, by decide⟩
theorem ml_X10_99 : pm_ml "ErrorSlices" 99 me_X5_length 0 := ⟨pm_i2 91 rfl rfl, cd_X5_length, in_X5_length, nd_X5_length, by decide⟩
theorem ml_X10_103 : pm_ml "ErrorSlices" 103 me_X5_append 1 := ⟨pm_i2 95 rfl rfl, cd_X5_append, in_X5_append, nd_X5_append, by decide⟩
theorem ml_L_20 : pm_ml "ErrorSlicesLaw" 20 me_X10_judge 0 := ⟨pm_i2 99 rfl rfl, cd_X10_judge, in_X10_judge, nd_X10_judge, by decide⟩
theorem ml_X10_107 : pm_ml "ErrorSlices" 107 me_X10_forgetLastText 0 := ⟨pm_i2 103 rfl rfl, cd_X10_forgetLastText, in_X10_forgetLastText, nd_X10_forgetLastText, by decide⟩
theorem ml_X10_126 : pm_ml "ErrorSlices" 126 me_X3_clear 0 := ⟨pm_i2 107 rfl rfl, cd_X3_clear, in_X3_clear, nd_X3_clear, by decide⟩
theorem ml_X10_110 : pm_ml "ErrorSlices" 110 me_X6_read 0 := ⟨pm_i2 111 rfl rfl, cd_X6_read, in_X6_read, nd_X6_read, by decide⟩
theorem ml_X6_29 : pm_ml "ErrorSlices$Tokens" 29 me_X5_length 0 := ⟨pm_i2 115 rfl rfl, cd_X5_length, in_X5_length, nd_X5_length, by decide⟩
theorem ml_X6_35 : pm_ml "ErrorSlices$Tokens" 35 me_X5_isBlank 1 := ⟨pm_i2 116 rfl rfl, cd_X5_isBlank, in_X5_isBlank, nd_X5_isBlank, by decide⟩
theorem ml_X5_19 : pm_ml "ErrorSlices$Text" 19 me_X5_at 1 := ⟨pm_i2 120 rfl rfl, cd_X5_at, in_X5_at, nd_X5_at, by decide⟩
theorem ml_X6_39 : pm_ml "ErrorSlices$Tokens" 39 me_X6_endFrom 1 := ⟨pm_i2 124 rfl rfl, cd_X6_endFrom, in_X6_endFrom, nd_X6_endFrom, by decide⟩
theorem ml_X6_65 : pm_ml "ErrorSlices$Tokens" 65 me_X5_isLetterOrDigit 1 := ⟨pm_i2 128 rfl rfl, cd_X5_isLetterOrDigit, in_X5_isLetterOrDigit, nd_X5_isLetterOrDigit, by decide⟩
theorem ml_X5_23 : pm_ml "ErrorSlices$Text" 23 me_X5_isLetter 1 := ⟨pm_i2 132 rfl rfl, cd_X5_isLetter, in_X5_isLetter, nd_X5_isLetter, by decide⟩
theorem ml_X5_27 : pm_ml "ErrorSlices$Text" 27 me_X5_isDigit 1 := ⟨pm_i2 136 rfl rfl, cd_X5_isDigit, in_X5_isDigit, nd_X5_isDigit, by decide⟩
theorem ml_X6_47 : pm_ml "ErrorSlices$Tokens" 47 me_X5_at 1 := ⟨pm_i2 140 rfl rfl, cd_X5_at, in_X5_at, nd_X5_at, by decide⟩
theorem ml_X6_43 : pm_ml "ErrorSlices$Tokens" 43 me_X6_add 2 := ⟨pm_i2 141 rfl rfl, cd_X6_add, in_X6_add, nd_X6_add, by decide⟩
theorem ml_X6_61 : pm_ml "ErrorSlices$Tokens" 61 me_X6_kindFrom 2 := ⟨pm_i2 145 rfl rfl, cd_X6_kindFrom, in_X6_kindFrom, nd_X6_kindFrom, by decide⟩
theorem ml_X6_68 : pm_ml "ErrorSlices$Tokens" 68 me_X5_isLetter 1 := ⟨pm_i2 149 rfl rfl, cd_X5_isLetter, in_X5_isLetter, nd_X5_isLetter, by decide⟩
theorem ml_X6_71 : pm_ml "ErrorSlices$Tokens" 71 me_X6_wordOrName 2 := ⟨pm_i2 150 rfl rfl, cd_X6_wordOrName, in_X6_wordOrName, nd_X6_wordOrName, by decide⟩
theorem ml_X6_84 : pm_ml "ErrorSlices$Tokens" 84 me_X6_isWord 3 := ⟨pm_i2 154 rfl rfl, cd_X6_isWord, in_X6_isWord, nd_X6_isWord, by decide⟩
theorem ml_X6_90 : pm_ml "ErrorSlices$Tokens" 90 me_J0_length_8abf5 0 := ⟨pm_i2 159 rfl rfl, cd_J0_length_8abf5, in_J0_length_8abf5, nd_J0_length_8abf5, by decide⟩
theorem ml_J0_335 : pm_ml "java/lang/String" 335 me_J0_coder_7d493 0 := ⟨pm_i2 163 rfl rfl, cd_J0_coder_7d493, in_J0_coder_7d493, nd_J0_coder_7d493, by decide⟩
theorem ml_X6_93 : pm_ml "ErrorSlices$Tokens" 93 me_J0_charAt_5068e 1 := ⟨pm_i2 169 rfl rfl, cd_J0_charAt_5068e, in_J0_charAt_5068e, nd_J0_charAt_5068e, by decide⟩
theorem ml_J0_492 : pm_ml "java/lang/String" 492 me_J0_isLatin1_aae02 0 := ⟨pm_i2 173 rfl rfl, cd_J0_isLatin1_aae02, in_J0_isLatin1_aae02, nd_J0_isLatin1_aae02, by decide⟩
theorem ml_J0_495 : pm_ml "java/lang/String" 495 me_J1_charAt_3b067 2 := ⟨pm_i2 177 rfl rfl, cd_J1_charAt_3b067, in_J1_charAt_3b067, nd_J1_charAt_3b067, by decide⟩
theorem ml_J1_9 : pm_ml "java/lang/StringLatin1" 9 me_J0_checkIndex_df160 2 := ⟨pm_i2 180 rfl rfl, cd_J0_checkIndex_df160, in_J0_checkIndex_df160, nd_J0_checkIndex_df160, by decide⟩
theorem ml_J0_1059 : pm_ml "java/lang/String" 1059 me_J3_checkIndex_8e157 3 := ⟨pm_i2 185 rfl rfl, cd_J3_checkIndex_8e157, in_J3_checkIndex_8e157, nd_J3_checkIndex_8e157, by decide⟩
theorem ml_J2_414 : pm_ml "java/lang/StringUTF16" 414 me_J0_checkIndex_df160 2 := ⟨pm_i2 197 rfl rfl, cd_J0_checkIndex_df160, in_J0_checkIndex_df160, nd_J0_checkIndex_df160, by decide⟩
theorem ml_X6_74 : pm_ml "ErrorSlices$Tokens" 74 me_X5_isDigit 1 := ⟨pm_i2 207 rfl rfl, cd_X5_isDigit, in_X5_isDigit, nd_X5_isDigit, by decide⟩
theorem ml_X6_77 : pm_ml "ErrorSlices$Tokens" 77 me_X6_holdsLetter 2 := ⟨pm_i2 208 rfl rfl, cd_X6_holdsLetter, in_X6_holdsLetter, nd_X6_holdsLetter, by decide⟩
theorem ml_X6_81 : pm_ml "ErrorSlices$Tokens" 81 me_X6_sign 1 := ⟨pm_i2 212 rfl rfl, cd_X6_sign, in_X6_sign, nd_X6_sign, by decide⟩
theorem ml_X10_113 : pm_ml "ErrorSlices" 113 me_X10_answerForTokens 0 := ⟨pm_i2 215 rfl rfl, cd_X10_answerForTokens, in_X10_answerForTokens, nd_X10_answerForTokens, by decide⟩
theorem ml_X10_127 : pm_ml "ErrorSlices" 127 me_X4_parse 0 := ⟨pm_i2 219 rfl rfl, cd_X4_parse, in_X4_parse, nd_X4_parse, by decide⟩
theorem ml_X4_50 : pm_ml "ErrorSlices$Parser" 50 me_X4_expression 1 := ⟨pm_i2 223 rfl rfl, cd_X4_expression, in_X4_expression, nd_X4_expression, by decide⟩
theorem ml_X4_58 : pm_ml "ErrorSlices$Parser" 58 me_X4_refuse 0 := ⟨pm_i2 227 rfl rfl, cd_X4_refuse, in_X4_refuse, nd_X4_refuse, by decide⟩
theorem ml_X4_54 : pm_ml "ErrorSlices$Parser" 54 me_X4_current 0 := ⟨pm_i2 231 rfl rfl, cd_X4_current, in_X4_current, nd_X4_current, by decide⟩
theorem ml_X4_65 : pm_ml "ErrorSlices$Parser" 65 me_X6_kind 1 := ⟨pm_i2 235 rfl rfl, cd_X6_kind, in_X6_kind, nd_X6_kind, by decide⟩
theorem ml_X4_86 : pm_ml "ErrorSlices$Parser" 86 me_X4_function 1 := ⟨pm_i2 239 rfl rfl, cd_X4_function, in_X4_function, nd_X4_function, by decide⟩
theorem ml_X4_98 : pm_ml "ErrorSlices$Parser" 98 me_X4_beginNode 2 := ⟨pm_i3 3 rfl rfl, cd_X4_beginNode, in_X4_beginNode, nd_X4_beginNode, by decide⟩
theorem ml_X4_76 : pm_ml "ErrorSlices$Parser" 76 me_X4_countNode 0 := ⟨pm_i3 7 rfl rfl, cd_X4_countNode, in_X4_countNode, nd_X4_countNode, by decide⟩
theorem ml_X4_79 : pm_ml "ErrorSlices$Parser" 79 me_X2_begin 2 := ⟨pm_i3 11 rfl rfl, cd_X2_begin, in_X2_begin, nd_X2_begin, by decide⟩
theorem ml_X2_33 : pm_ml "ErrorSlices$Nodes" 33 me_X2_holds 1 := ⟨pm_i3 15 rfl rfl, cd_X2_holds, in_X2_holds, nd_X2_holds, by decide⟩
theorem ml_X4_83 : pm_ml "ErrorSlices$Parser" 83 me_X2_setFirst 2 := ⟨pm_i3 19 rfl rfl, cd_X2_setFirst, in_X2_setFirst, nd_X2_setFirst, by decide⟩
theorem ml_X4_73 : pm_ml "ErrorSlices$Parser" 73 me_X4_take 1 := ⟨pm_i3 23 rfl rfl, cd_X4_take, in_X4_take, nd_X4_take, by decide⟩
theorem ml_X4_70 : pm_ml "ErrorSlices$Parser" 70 me_X6_size 0 := ⟨pm_i3 27 rfl rfl, cd_X6_size, in_X6_size, nd_X6_size, by decide⟩
theorem ml_X4_102 : pm_ml "ErrorSlices$Parser" 102 me_X4_expect 2 := ⟨pm_i3 31 rfl rfl, cd_X4_expect, in_X4_expect, nd_X4_expect, by decide⟩
theorem ml_X4_105 : pm_ml "ErrorSlices$Parser" 105 me_X4_expressionInScope 2 := ⟨pm_i3 35 rfl rfl, cd_X4_expressionInScope, in_X4_expressionInScope, nd_X4_expressionInScope, by decide⟩
theorem ml_X4_89 : pm_ml "ErrorSlices$Parser" 89 me_X4_let 1 := ⟨pm_i3 39 rfl rfl, cd_X4_let, in_X4_let, nd_X4_let, by decide⟩
theorem ml_X4_108 : pm_ml "ErrorSlices$Parser" 108 me_X2_setSecond 2 := ⟨pm_i3 43 rfl rfl, cd_X2_setSecond, in_X2_setSecond, nd_X2_setSecond, by decide⟩
theorem ml_X4_92 : pm_ml "ErrorSlices$Parser" 92 me_X4_choice 1 := ⟨pm_i3 47 rfl rfl, cd_X4_choice, in_X4_choice, nd_X4_choice, by decide⟩
theorem ml_X4_111 : pm_ml "ErrorSlices$Parser" 111 me_X2_setThird 2 := ⟨pm_i3 51 rfl rfl, cd_X2_setThird, in_X2_setThird, nd_X2_setThird, by decide⟩
theorem ml_X4_95 : pm_ml "ErrorSlices$Parser" 95 me_X4_comparison 1 := ⟨pm_i3 55 rfl rfl, cd_X4_comparison, in_X4_comparison, nd_X4_comparison, by decide⟩
theorem ml_X4_114 : pm_ml "ErrorSlices$Parser" 114 me_X4_sum 1 := ⟨pm_i3 59 rfl rfl, cd_X4_sum, in_X4_sum, nd_X4_sum, by decide⟩
theorem ml_X4_117 : pm_ml "ErrorSlices$Parser" 117 me_X4_call 1 := ⟨pm_i3 63 rfl rfl, cd_X4_call, in_X4_call, nd_X4_call, by decide⟩
theorem ml_X4_120 : pm_ml "ErrorSlices$Parser" 120 me_X4_atom 1 := ⟨pm_i3 67 rfl rfl, cd_X4_atom, in_X4_atom, nd_X4_atom, by decide⟩
theorem ml_X4_123 : pm_ml "ErrorSlices$Parser" 123 me_X4_name 0 := ⟨pm_i3 71 rfl rfl, cd_X4_name, in_X4_name, nd_X4_name, by decide⟩
theorem ml_X4_129 : pm_ml "ErrorSlices$Parser" 129 me_X4_binderOf 1 := ⟨pm_i3 75 rfl rfl, cd_X4_binderOf, in_X4_binderOf, nd_X4_binderOf, by decide⟩
theorem ml_X4_135 : pm_ml "ErrorSlices$Parser" 135 me_J9_min_7cf53 2 := ⟨pm_i3 79 rfl rfl, cd_J9_min_7cf53, in_J9_min_7cf53, nd_J9_min_7cf53, by decide⟩
theorem ml_X4_140 : pm_ml "ErrorSlices$Parser" 140 me_X6_areSame 2 := ⟨pm_i3 82 rfl rfl, cd_X6_areSame, in_X6_areSame, nd_X6_areSame, by decide⟩
theorem ml_X4_132 : pm_ml "ErrorSlices$Parser" 132 me_X2_setMeaning 2 := ⟨pm_i3 86 rfl rfl, cd_X2_setMeaning, in_X2_setMeaning, nd_X2_setMeaning, by decide⟩
theorem ml_X4_126 : pm_ml "ErrorSlices$Parser" 126 me_X4_bracketed 1 := ⟨pm_i3 90 rfl rfl, cd_X4_bracketed, in_X4_bracketed, nd_X4_bracketed, by decide⟩
theorem ml_X4_144 : pm_ml "ErrorSlices$Parser" 144 me_X4_pair 3 := ⟨pm_i3 94 rfl rfl, cd_X4_pair, in_X4_pair, nd_X4_pair, by decide⟩
theorem ml_X4_61 : pm_ml "ErrorSlices$Parser" 61 me_X4_isPlace 1 := ⟨pm_i3 98 rfl rfl, cd_X4_isPlace, in_X4_isPlace, nd_X4_isPlace, by decide⟩
theorem ml_X10_131 : pm_ml "ErrorSlices" 131 me_X4_refusedToken 0 := ⟨pm_i3 101 rfl rfl, cd_X4_refusedToken, in_X4_refusedToken, nd_X4_refusedToken, by decide⟩
theorem ml_X10_134 : pm_ml "ErrorSlices" 134 me_X6_start 1 := ⟨pm_i3 105 rfl rfl, cd_X6_start, in_X6_start, nd_X6_start, by decide⟩
theorem ml_X10_138 : pm_ml "ErrorSlices" 138 me_X10_fault 2 := ⟨pm_i3 109 rfl rfl, cd_X10_fault, in_X10_fault, nd_X10_fault, by decide⟩
theorem ml_X10_142 : pm_ml "ErrorSlices" 142 me_X7_gather 2 := ⟨pm_i3 113 rfl rfl, cd_X7_gather, in_X7_gather, nd_X7_gather, by decide⟩
theorem ml_X7_37 : pm_ml "ErrorSlices$Tree" 37 me_X6_size 0 := ⟨pm_i3 117 rfl rfl, cd_X6_size, in_X6_size, nd_X6_size, by decide⟩
theorem ml_X7_42 : pm_ml "ErrorSlices$Tree" 42 me_X4_owner 1 := ⟨pm_i3 118 rfl rfl, cd_X4_owner, in_X4_owner, nd_X4_owner, by decide⟩
theorem ml_X7_48 : pm_ml "ErrorSlices$Tree" 48 me_X4_drafts 0 := ⟨pm_i3 122 rfl rfl, cd_X4_drafts, in_X4_drafts, nd_X4_drafts, by decide⟩
theorem ml_X7_52 : pm_ml "ErrorSlices$Tree" 52 me_X2_kind 1 := ⟨pm_i3 126 rfl rfl, cd_X2_kind, in_X2_kind, nd_X2_kind, by decide⟩
theorem ml_X7_55 : pm_ml "ErrorSlices$Tree" 55 me_X2_begin 2 := ⟨pm_i3 130 rfl rfl, cd_X2_begin, in_X2_begin, nd_X2_begin, by decide⟩
theorem ml_X7_59 : pm_ml "ErrorSlices$Tree" 59 me_X7_ownerOf 1 := ⟨pm_i3 131 rfl rfl, cd_X7_ownerOf, in_X7_ownerOf, nd_X7_ownerOf, by decide⟩
theorem ml_X7_62 : pm_ml "ErrorSlices$Tree" 62 me_X6_kind 1 := ⟨pm_i3 135 rfl rfl, cd_X6_kind, in_X6_kind, nd_X6_kind, by decide⟩
theorem ml_X7_63 : pm_ml "ErrorSlices$Tree" 63 me_X7_isNode 1 := ⟨pm_i3 136 rfl rfl, cd_X7_isNode, in_X7_isNode, nd_X7_isNode, by decide⟩
theorem ml_X7_67 : pm_ml "ErrorSlices$Tree" 67 me_X4_root 0 := ⟨pm_i3 140 rfl rfl, cd_X4_root, in_X4_root, nd_X4_root, by decide⟩
theorem ml_X7_69 : pm_ml "ErrorSlices$Tree" 69 me_X7_linkNodes 2 := ⟨pm_i3 144 rfl rfl, cd_X7_linkNodes, in_X7_linkNodes, nd_X7_linkNodes, by decide⟩
theorem ml_X7_76 : pm_ml "ErrorSlices$Tree" 76 me_X2_first 1 := ⟨pm_i3 148 rfl rfl, cd_X2_first, in_X2_first, nd_X2_first, by decide⟩
theorem ml_X7_79 : pm_ml "ErrorSlices$Tree" 79 me_X2_setFirst 2 := ⟨pm_i3 152 rfl rfl, cd_X2_setFirst, in_X2_setFirst, nd_X2_setFirst, by decide⟩
theorem ml_X7_82 : pm_ml "ErrorSlices$Tree" 82 me_X2_second 1 := ⟨pm_i3 153 rfl rfl, cd_X2_second, in_X2_second, nd_X2_second, by decide⟩
theorem ml_X7_85 : pm_ml "ErrorSlices$Tree" 85 me_X2_setSecond 2 := ⟨pm_i3 157 rfl rfl, cd_X2_setSecond, in_X2_setSecond, nd_X2_setSecond, by decide⟩
theorem ml_X7_88 : pm_ml "ErrorSlices$Tree" 88 me_X2_third 1 := ⟨pm_i3 158 rfl rfl, cd_X2_third, in_X2_third, nd_X2_third, by decide⟩
theorem ml_X7_91 : pm_ml "ErrorSlices$Tree" 91 me_X2_setThird 2 := ⟨pm_i3 162 rfl rfl, cd_X2_setThird, in_X2_setThird, nd_X2_setThird, by decide⟩
theorem ml_X7_94 : pm_ml "ErrorSlices$Tree" 94 me_X2_meaning 1 := ⟨pm_i3 163 rfl rfl, cd_X2_meaning, in_X2_meaning, nd_X2_meaning, by decide⟩
theorem ml_X7_97 : pm_ml "ErrorSlices$Tree" 97 me_X2_setMeaning 2 := ⟨pm_i3 167 rfl rfl, cd_X2_setMeaning, in_X2_setMeaning, nd_X2_setMeaning, by decide⟩
theorem ml_X7_73 : pm_ml "ErrorSlices$Tree" 73 me_X7_countSlots 0 := ⟨pm_i3 168 rfl rfl, cd_X7_countSlots, in_X7_countSlots, nd_X7_countSlots, by decide⟩
theorem ml_X10_146 : pm_ml "ErrorSlices" 146 me_X7_size 0 := ⟨pm_i3 172 rfl rfl, cd_X7_size, in_X7_size, nd_X7_size, by decide⟩
theorem ml_X10_149 : pm_ml "ErrorSlices" 149 me_X4_unknownName 0 := ⟨pm_i3 176 rfl rfl, cd_X4_unknownName, in_X4_unknownName, nd_X4_unknownName, by decide⟩
theorem ml_X10_152 : pm_ml "ErrorSlices" 152 me_X1_unfold 0 := ⟨pm_i3 180 rfl rfl, cd_X1_unfold, in_X1_unfold, nd_X1_unfold, by decide⟩
theorem ml_X1_61 : pm_ml "ErrorSlices$Copies" 61 me_X1_add 2 := ⟨pm_i3 184 rfl rfl, cd_X1_add, in_X1_add, nd_X1_add, by decide⟩
theorem ml_X1_65 : pm_ml "ErrorSlices$Copies" 65 me_X1_endNode 1 := ⟨pm_i3 188 rfl rfl, cd_X1_endNode, in_X1_endNode, nd_X1_endNode, by decide⟩
theorem ml_X1_44 : pm_ml "ErrorSlices$Copies" 44 me_X1_isCopy 1 := ⟨pm_i3 192 rfl rfl, cd_X1_isCopy, in_X1_isCopy, nd_X1_isCopy, by decide⟩
theorem ml_X1_48 : pm_ml "ErrorSlices$Copies" 48 me_X7_boundEnd 1 := ⟨pm_i3 196 rfl rfl, cd_X7_boundEnd, in_X7_boundEnd, nd_X7_boundEnd, by decide⟩
theorem ml_X1_52 : pm_ml "ErrorSlices$Copies" 52 me_X7_size 0 := ⟨pm_i3 200 rfl rfl, cd_X7_size, in_X7_size, nd_X7_size, by decide⟩
theorem ml_X1_55 : pm_ml "ErrorSlices$Copies" 55 me_X7_slot 1 := ⟨pm_i3 201 rfl rfl, cd_X7_slot, in_X7_slot, nd_X7_slot, by decide⟩
theorem ml_X1_58 : pm_ml "ErrorSlices$Copies" 58 me_X1_firstNode 1 := ⟨pm_i3 205 rfl rfl, cd_X1_firstNode, in_X1_firstNode, nd_X1_firstNode, by decide⟩
theorem ml_X1_68 : pm_ml "ErrorSlices$Copies" 68 me_X2_kind 1 := ⟨pm_i3 209 rfl rfl, cd_X2_kind, in_X2_kind, nd_X2_kind, by decide⟩
theorem ml_X1_73 : pm_ml "ErrorSlices$Copies" 73 me_X1_follow 2 := ⟨pm_i3 210 rfl rfl, cd_X1_follow, in_X1_follow, nd_X1_follow, by decide⟩
theorem ml_X1_76 : pm_ml "ErrorSlices$Copies" 76 me_X2_meaning 1 := ⟨pm_i3 214 rfl rfl, cd_X2_meaning, in_X2_meaning, nd_X2_meaning, by decide⟩
theorem ml_X1_79 : pm_ml "ErrorSlices$Copies" 79 me_X1_homeOf 2 := ⟨pm_i3 215 rfl rfl, cd_X1_homeOf, in_X1_homeOf, nd_X1_homeOf, by decide⟩
theorem ml_X1_89 : pm_ml "ErrorSlices$Copies" 89 me_X1_holds 2 := ⟨pm_i3 219 rfl rfl, cd_X1_holds, in_X1_holds, nd_X1_holds, by decide⟩
theorem ml_X1_83 : pm_ml "ErrorSlices$Copies" 83 me_X1_variable 2 := ⟨pm_i3 223 rfl rfl, cd_X1_variable, in_X1_variable, nd_X1_variable, by decide⟩
theorem ml_X1_86 : pm_ml "ErrorSlices$Copies" 86 me_X2_first 1 := ⟨pm_i3 227 rfl rfl, cd_X2_first, in_X2_first, nd_X2_first, by decide⟩
theorem ml_X10_155 : pm_ml "ErrorSlices" 155 me_X1_variables 0 := ⟨pm_i3 228 rfl rfl, cd_X1_variables, in_X1_variables, nd_X1_variables, by decide⟩
theorem ml_X10_157 : pm_ml "ErrorSlices" 157 me_X0_allFine 0 := ⟨pm_i3 232 rfl rfl, cd_X0_allFine, in_X0_allFine, nd_X0_allFine, by decide⟩
theorem ml_X0_36 : pm_ml "ErrorSlices$Checker" 36 me_X0_chooseAll 0 := ⟨pm_i3 236 rfl rfl, cd_X0_chooseAll, in_X0_chooseAll, nd_X0_chooseAll, by decide⟩
theorem ml_X0_39 : pm_ml "ErrorSlices$Checker" 39 me_X0_isFine 0 := ⟨pm_i4 0 rfl rfl, cd_X0_isFine, in_X0_isFine, nd_X0_isFine, by decide⟩
theorem ml_X0_47 : pm_ml "ErrorSlices$Checker" 47 me_X1_variables 0 := ⟨pm_i4 4 rfl rfl, cd_X1_variables, in_X1_variables, nd_X1_variables, by decide⟩
theorem ml_X0_52 : pm_ml "ErrorSlices$Checker" 52 me_X9_begin 1 := ⟨pm_i4 5 rfl rfl, cd_X9_begin, in_X9_begin, nd_X9_begin, by decide⟩
theorem ml_X9_37 : pm_ml "ErrorSlices$Types" 37 me_X9_free 0 := ⟨pm_i4 9 rfl rfl, cd_X9_free, in_X9_free, nd_X9_free, by decide⟩
theorem ml_X9_41 : pm_ml "ErrorSlices$Types" 41 me_X9_add 3 := ⟨pm_i4 13 rfl rfl, cd_X9_add, in_X9_add, nd_X9_add, by decide⟩
theorem ml_X0_58 : pm_ml "ErrorSlices$Checker" 58 me_X1_size 0 := ⟨pm_i4 17 rfl rfl, cd_X1_size, in_X1_size, nd_X1_size, by decide⟩
theorem ml_X0_59 : pm_ml "ErrorSlices$Checker" 59 me_X1_endNode 1 := ⟨pm_i4 21 rfl rfl, cd_X1_endNode, in_X1_endNode, nd_X1_endNode, by decide⟩
theorem ml_X0_63 : pm_ml "ErrorSlices$Checker" 63 me_X1_firstNode 1 := ⟨pm_i4 22 rfl rfl, cd_X1_firstNode, in_X1_firstNode, nd_X1_firstNode, by decide⟩
theorem ml_X0_66 : pm_ml "ErrorSlices$Checker" 66 me_X0_ask 2 := ⟨pm_i4 23 rfl rfl, cd_X0_ask, in_X0_ask, nd_X0_ask, by decide⟩
theorem ml_X0_73 : pm_ml "ErrorSlices$Checker" 73 me_X1_variable 2 := ⟨pm_i4 27 rfl rfl, cd_X1_variable, in_X1_variable, nd_X1_variable, by decide⟩
theorem ml_X0_77 : pm_ml "ErrorSlices$Checker" 77 me_X2_first 1 := ⟨pm_i4 28 rfl rfl, cd_X2_first, in_X2_first, nd_X2_first, by decide⟩
theorem ml_X0_82 : pm_ml "ErrorSlices$Checker" 82 me_X2_second 1 := ⟨pm_i4 29 rfl rfl, cd_X2_second, in_X2_second, nd_X2_second, by decide⟩
theorem ml_X0_85 : pm_ml "ErrorSlices$Checker" 85 me_X2_kind 1 := ⟨pm_i4 30 rfl rfl, cd_X2_kind, in_X2_kind, nd_X2_kind, by decide⟩
theorem ml_X0_88 : pm_ml "ErrorSlices$Checker" 88 me_X1_target 1 := ⟨pm_i4 31 rfl rfl, cd_X1_target, in_X1_target, nd_X1_target, by decide⟩
theorem ml_X0_91 : pm_ml "ErrorSlices$Checker" 91 me_X9_unify 2 := ⟨pm_i4 35 rfl rfl, cd_X9_unify, in_X9_unify, nd_X9_unify, by decide⟩
theorem ml_X9_59 : pm_ml "ErrorSlices$Types" 59 me_X9_push 3 := ⟨pm_i4 39 rfl rfl, cd_X9_push, in_X9_push, nd_X9_push, by decide⟩
theorem ml_X9_63 : pm_ml "ErrorSlices$Types" 63 me_X9_rootOf 1 := ⟨pm_i4 44 rfl rfl, cd_X9_rootOf, in_X9_rootOf, nd_X9_rootOf, by decide⟩
theorem ml_X9_52 : pm_ml "ErrorSlices$Types" 52 me_X9_kind 1 := ⟨pm_i4 48 rfl rfl, cd_X9_kind, in_X9_kind, nd_X9_kind, by decide⟩
theorem ml_X9_56 : pm_ml "ErrorSlices$Types" 56 me_X9_left 1 := ⟨pm_i4 52 rfl rfl, cd_X9_left, in_X9_left, nd_X9_left, by decide⟩
theorem ml_X9_66 : pm_ml "ErrorSlices$Types" 66 me_X9_link 2 := ⟨pm_i4 56 rfl rfl, cd_X9_link, in_X9_link, nd_X9_link, by decide⟩
theorem ml_X9_70 : pm_ml "ErrorSlices$Types" 70 me_X9_unifyParts 3 := ⟨pm_i4 60 rfl rfl, cd_X9_unifyParts, in_X9_unifyParts, nd_X9_unifyParts, by decide⟩
theorem ml_X9_76 : pm_ml "ErrorSlices$Types" 76 me_X9_hasParts 1 := ⟨pm_i4 64 rfl rfl, cd_X9_hasParts, in_X9_hasParts, nd_X9_hasParts, by decide⟩
theorem ml_X9_83 : pm_ml "ErrorSlices$Types" 83 me_X9_right 1 := ⟨pm_i4 67 rfl rfl, cd_X9_right, in_X9_right, nd_X9_right, by decide⟩
theorem ml_X0_94 : pm_ml "ErrorSlices$Checker" 94 me_X9_intCell 0 := ⟨pm_i4 71 rfl rfl, cd_X9_intCell, in_X9_intCell, nd_X9_intCell, by decide⟩
theorem ml_X0_97 : pm_ml "ErrorSlices$Checker" 97 me_X9_boolCell 0 := ⟨pm_i4 75 rfl rfl, cd_X9_boolCell, in_X9_boolCell, nd_X9_boolCell, by decide⟩
theorem ml_X0_100 : pm_ml "ErrorSlices$Checker" 100 me_X9_function 2 := ⟨pm_i4 79 rfl rfl, cd_X9_function, in_X9_function, nd_X9_function, by decide⟩
theorem ml_X0_103 : pm_ml "ErrorSlices$Checker" 103 me_X9_partFunction 1 := ⟨pm_i4 83 rfl rfl, cd_X9_partFunction, in_X9_partFunction, nd_X9_partFunction, by decide⟩
theorem ml_X9_45 : pm_ml "ErrorSlices$Types" 45 me_X9_pair 2 := ⟨pm_i4 87 rfl rfl, cd_X9_pair, in_X9_pair, nd_X9_pair, by decide⟩
theorem ml_X9_49 : pm_ml "ErrorSlices$Types" 49 me_X9_function 2 := ⟨pm_i4 91 rfl rfl, cd_X9_function, in_X9_function, nd_X9_function, by decide⟩
theorem ml_X0_107 : pm_ml "ErrorSlices$Checker" 107 me_X2_third 1 := ⟨pm_i4 92 rfl rfl, cd_X2_third, in_X2_third, nd_X2_third, by decide⟩
theorem ml_X0_110 : pm_ml "ErrorSlices$Checker" 110 me_X9_pair 2 := ⟨pm_i4 93 rfl rfl, cd_X9_pair, in_X9_pair, nd_X9_pair, by decide⟩
theorem ml_X0_70 : pm_ml "ErrorSlices$Checker" 70 me_X9_areFinite 0 := ⟨pm_i4 94 rfl rfl, cd_X9_areFinite, in_X9_areFinite, nd_X9_areFinite, by decide⟩
theorem ml_X9_73 : pm_ml "ErrorSlices$Types" 73 me_X9_countUses 0 := ⟨pm_i4 98 rfl rfl, cd_X9_countUses, in_X9_countUses, nd_X9_countUses, by decide⟩
theorem ml_X9_86 : pm_ml "ErrorSlices$Types" 86 me_X9_clearMarks 0 := ⟨pm_i4 102 rfl rfl, cd_X9_clearMarks, in_X9_clearMarks, nd_X9_clearMarks, by decide⟩
theorem ml_X9_89 : pm_ml "ErrorSlices$Types" 89 me_X9_mark 1 := ⟨pm_i4 106 rfl rfl, cd_X9_mark, in_X9_mark, nd_X9_mark, by decide⟩
theorem ml_X9_92 : pm_ml "ErrorSlices$Types" 92 me_X9_setMark 2 := ⟨pm_i4 110 rfl rfl, cd_X9_setMark, in_X9_setMark, nd_X9_setMark, by decide⟩
theorem ml_X9_80 : pm_ml "ErrorSlices$Types" 80 me_X9_loseUse 2 := ⟨pm_i4 114 rfl rfl, cd_X9_loseUse, in_X9_loseUse, nd_X9_loseUse, by decide⟩
theorem ml_X10_160 : pm_ml "ErrorSlices" 160 me_X7_root 0 := ⟨pm_i4 118 rfl rfl, cd_X7_root, in_X7_root, nd_X7_root, by decide⟩
theorem ml_X10_163 : pm_ml "ErrorSlices" 163 me_X1_variable 2 := ⟨pm_i4 122 rfl rfl, cd_X1_variable, in_X1_variable, nd_X1_variable, by decide⟩
theorem ml_X10_166 : pm_ml "ErrorSlices" 166 me_X8_write 1 := ⟨pm_i4 123 rfl rfl, cd_X8_write, in_X8_write, nd_X8_write, by decide⟩
theorem ml_X8_36 : pm_ml "ErrorSlices$TypeWriter" 36 me_X9_clearMarks 0 := ⟨pm_i4 127 rfl rfl, cd_X9_clearMarks, in_X9_clearMarks, nd_X9_clearMarks, by decide⟩
theorem ml_X8_39 : pm_ml "ErrorSlices$TypeWriter" 39 me_X8_push 1 := ⟨pm_i4 128 rfl rfl, cd_X8_push, in_X8_push, nd_X8_push, by decide⟩
theorem ml_X8_82 : pm_ml "ErrorSlices$TypeWriter" 82 me_X9_rootOf 1 := ⟨pm_i4 132 rfl rfl, cd_X9_rootOf, in_X9_rootOf, nd_X9_rootOf, by decide⟩
theorem ml_X8_89 : pm_ml "ErrorSlices$TypeWriter" 89 me_X8_pushAgain 2 := ⟨pm_i4 133 rfl rfl, cd_X8_pushAgain, in_X8_pushAgain, nd_X8_pushAgain, by decide⟩
theorem ml_X8_44 : pm_ml "ErrorSlices$TypeWriter" 44 me_X3_isFull 0 := ⟨pm_i4 138 rfl rfl, cd_X3_isFull, in_X3_isFull, nd_X3_isFull, by decide⟩
theorem ml_X8_50 : pm_ml "ErrorSlices$TypeWriter" 50 me_X8_writeNext 0 := ⟨pm_i4 142 rfl rfl, cd_X8_writeNext, in_X8_writeNext, nd_X8_writeNext, by decide⟩
theorem ml_X8_53 : pm_ml "ErrorSlices$TypeWriter" 53 me_X8_pop 0 := ⟨pm_i4 146 rfl rfl, cd_X8_pop, in_X8_pop, nd_X8_pop, by decide⟩
theorem ml_X8_57 : pm_ml "ErrorSlices$TypeWriter" 57 me_X9_kind 1 := ⟨pm_i4 150 rfl rfl, cd_X9_kind, in_X9_kind, nd_X9_kind, by decide⟩
theorem ml_X8_61 : pm_ml "ErrorSlices$TypeWriter" 61 me_X8_writeFunction 2 := ⟨pm_i4 151 rfl rfl, cd_X8_writeFunction, in_X8_writeFunction, nd_X8_writeFunction, by decide⟩
theorem ml_X8_79 : pm_ml "ErrorSlices$TypeWriter" 79 me_X9_left 1 := ⟨pm_i4 155 rfl rfl, cd_X9_left, in_X9_left, nd_X9_left, by decide⟩
theorem ml_X8_70 : pm_ml "ErrorSlices$TypeWriter" 70 me_X3_addText 1 := ⟨pm_i4 158 rfl rfl, cd_X3_addText, in_X3_addText, nd_X3_addText, by decide⟩
theorem ml_X3_26 : pm_ml "ErrorSlices$Output" 26 me_J0_length_8abf5 0 := ⟨pm_i4 162 rfl rfl, cd_J0_length_8abf5, in_J0_length_8abf5, nd_J0_length_8abf5, by decide⟩
theorem ml_X3_32 : pm_ml "ErrorSlices$Output" 32 me_J0_charAt_5068e 1 := ⟨pm_i4 163 rfl rfl, cd_J0_charAt_5068e, in_J0_charAt_5068e, nd_J0_charAt_5068e, by decide⟩
theorem ml_X3_36 : pm_ml "ErrorSlices$Output" 36 me_X3_add 1 := ⟨pm_i4 164 rfl rfl, cd_X3_add, in_X3_add, nd_X3_add, by decide⟩
theorem ml_X3_22 : pm_ml "ErrorSlices$Output" 22 me_X3_isFull 0 := ⟨pm_i4 168 rfl rfl, cd_X3_isFull, in_X3_isFull, nd_X3_isFull, by decide⟩
theorem ml_X8_96 : pm_ml "ErrorSlices$TypeWriter" 96 me_X9_right 1 := ⟨pm_i4 171 rfl rfl, cd_X9_right, in_X9_right, nd_X9_right, by decide⟩
theorem ml_X8_65 : pm_ml "ErrorSlices$TypeWriter" 65 me_X8_writePair 2 := ⟨pm_i4 172 rfl rfl, cd_X8_writePair, in_X8_writePair, nd_X8_writePair, by decide⟩
theorem ml_X8_76 : pm_ml "ErrorSlices$TypeWriter" 76 me_X8_writeLetter 1 := ⟨pm_i4 180 rfl rfl, cd_X8_writeLetter, in_X8_writeLetter, nd_X8_writeLetter, by decide⟩
theorem ml_X8_103 : pm_ml "ErrorSlices$TypeWriter" 103 me_X9_mark 1 := ⟨pm_i4 184 rfl rfl, cd_X9_mark, in_X9_mark, nd_X9_mark, by decide⟩
theorem ml_X8_106 : pm_ml "ErrorSlices$TypeWriter" 106 me_X9_setMark 2 := ⟨pm_i4 185 rfl rfl, cd_X9_setMark, in_X9_setMark, nd_X9_setMark, by decide⟩
theorem ml_X8_109 : pm_ml "ErrorSlices$TypeWriter" 109 me_X3_add 1 := ⟨pm_i4 186 rfl rfl, cd_X3_add, in_X3_add, nd_X3_add, by decide⟩
theorem ml_X8_112 : pm_ml "ErrorSlices$TypeWriter" 112 me_X3_addNumber 1 := ⟨pm_i4 187 rfl rfl, cd_X3_addNumber, in_X3_addNumber, nd_X3_addNumber, by decide⟩
theorem ml_X10_170 : pm_ml "ErrorSlices" 170 me_X0_cut 1 := ⟨pm_i4 191 rfl rfl, cd_X0_cut, in_X0_cut, nd_X0_cut, by decide⟩
theorem ml_X0_43 : pm_ml "ErrorSlices$Checker" 43 me_X7_size 0 := ⟨pm_i4 195 rfl rfl, cd_X7_size, in_X7_size, nd_X7_size, by decide⟩
theorem ml_X10_174 : pm_ml "ErrorSlices" 174 me_X10_writeSlice 0 := ⟨pm_i4 196 rfl rfl, cd_X10_writeSlice, in_X10_writeSlice, nd_X10_writeSlice, by decide⟩
theorem ml_X10_177 : pm_ml "ErrorSlices" 177 me_X6_size 0 := ⟨pm_i4 200 rfl rfl, cd_X6_size, in_X6_size, nd_X6_size, by decide⟩
theorem ml_X10_178 : pm_ml "ErrorSlices" 178 me_X7_ownerOf 1 := ⟨pm_i4 201 rfl rfl, cd_X7_ownerOf, in_X7_ownerOf, nd_X7_ownerOf, by decide⟩
theorem ml_X10_181 : pm_ml "ErrorSlices" 181 me_X10_isIn 1 := ⟨pm_i4 202 rfl rfl, cd_X10_isIn, in_X10_isIn, nd_X10_isIn, by decide⟩
theorem ml_X10_189 : pm_ml "ErrorSlices" 189 me_X3_addText 1 := ⟨pm_i4 208 rfl rfl, cd_X3_addText, in_X3_addText, nd_X3_addText, by decide⟩
theorem ml_X10_195 : pm_ml "ErrorSlices" 195 me_X6_copyTo 2 := ⟨pm_i4 210 rfl rfl, cd_X6_copyTo, in_X6_copyTo, nd_X6_copyTo, by decide⟩
theorem ml_X6_50 : pm_ml "ErrorSlices$Tokens" 50 me_X6_start 1 := ⟨pm_i4 214 rfl rfl, cd_X6_start, in_X6_start, nd_X6_start, by decide⟩
theorem ml_X6_53 : pm_ml "ErrorSlices$Tokens" 53 me_X6_end 1 := ⟨pm_i4 215 rfl rfl, cd_X6_end, in_X6_end, nd_X6_end, by decide⟩
theorem ml_X6_56 : pm_ml "ErrorSlices$Tokens" 56 me_X3_add 1 := ⟨pm_i4 219 rfl rfl, cd_X3_add, in_X3_add, nd_X3_add, by decide⟩
theorem ml_X10_116 : pm_ml "ErrorSlices" 116 me_X5_clear 0 := ⟨pm_i4 221 rfl rfl, cd_X5_clear, in_X5_clear, nd_X5_clear, by decide⟩
theorem ml_L_25 : pm_ml "ErrorSlicesLaw" 25 me_X10_place 0 := ⟨pm_i4 225 rfl rfl, cd_X10_place, in_X10_place, nd_X10_place, by decide⟩
theorem ml_L_29 : pm_ml "ErrorSlicesLaw" 29 me_X10_isIn 1 := ⟨pm_i4 229 rfl rfl, cd_X10_isIn, in_X10_isIn, nd_X10_isIn, by decide⟩
theorem ml_L_34 : pm_ml "ErrorSlicesLaw" 34 me_X10_fetch 0 := ⟨pm_i4 230 rfl rfl, cd_X10_fetch, in_X10_fetch, nd_X10_fetch, by decide⟩
theorem ml_X10_119 : pm_ml "ErrorSlices" 119 me_X3_take 0 := ⟨pm_i4 234 rfl rfl, cd_X3_take, in_X3_take, nd_X3_take, by decide⟩
theorem ml_X3_40 : pm_ml "ErrorSlices$Output" 40 me_X3_left 0 := ⟨pm_i4 238 rfl rfl, cd_X3_left, in_X3_left, nd_X3_left, by decide⟩
theorem ml_X3_43 : pm_ml "ErrorSlices$Output" 43 me_J9_min_7cf53 2 := ⟨pm_i5 2 rfl rfl, cd_J9_min_7cf53, in_J9_min_7cf53, nd_J9_min_7cf53, by decide⟩
theorem ml_L_39 : pm_ml "ErrorSlicesLaw" 39 me_X10_count 1 := ⟨pm_i5 3 rfl rfl, cd_X10_count, in_X10_count, nd_X10_count, by decide⟩
theorem ml_X10_123 : pm_ml "ErrorSlices" 123 me_X3_left 0 := ⟨pm_i5 7 rfl rfl, cd_X3_left, in_X3_left, nd_X3_left, by decide⟩
theorem ml_L_12 : pm_ml "ErrorSlicesLaw" 12 me_X11_init 0 := ⟨pm_i5 10 rfl rfl, cd_X11_init, in_X11_init, nd_X11_init, by decide⟩
theorem ml_L_19 : pm_ml "ErrorSlicesLaw" 19 me_X11_put 2 := ⟨pm_i5 192 rfl rfl, cd_X11_put, in_X11_put, nd_X11_put, by decide⟩
theorem ml_L_24 : pm_ml "ErrorSlicesLaw" 24 me_X11_judge 0 := ⟨pm_i5 196 rfl rfl, cd_X11_judge, in_X11_judge, nd_X11_judge, by decide⟩
theorem ml_X11_186 : pm_ml "ErrorSlicesModel" 186 me_X11_look 0 := ⟨pm_i5 200 rfl rfl, cd_X11_look, in_X11_look, nd_X11_look, by decide⟩
theorem ml_X11_161 : pm_ml "ErrorSlicesModel" 161 me_X11_here 1 := ⟨pm_i5 204 rfl rfl, cd_X11_here, in_X11_here, nd_X11_here, by decide⟩
theorem ml_X11_168 : pm_ml "ErrorSlicesModel" 168 me_X11_isLetter 1 := ⟨pm_i5 208 rfl rfl, cd_X11_isLetter, in_X11_isLetter, nd_X11_isLetter, by decide⟩
theorem ml_X11_172 : pm_ml "ErrorSlicesModel" 172 me_X11_isDigit 1 := ⟨pm_i5 211 rfl rfl, cd_X11_isDigit, in_X11_isDigit, nd_X11_isDigit, by decide⟩
theorem ml_X11_175 : pm_ml "ErrorSlicesModel" 175 me_X11_wordOf 0 := ⟨pm_i5 214 rfl rfl, cd_X11_wordOf, in_X11_wordOf, nd_X11_wordOf, by decide⟩
theorem ml_X11_343 : pm_ml "ErrorSlicesModel" 343 me_X11_parse 0 := ⟨pm_i5 229 rfl rfl, cd_X11_parse, in_X11_parse, nd_X11_parse, by decide⟩
theorem ml_X11_205 : pm_ml "ErrorSlicesModel" 205 me_X11_enter 2 := ⟨pm_i5 233 rfl rfl, cd_X11_enter, in_X11_enter, nd_X11_enter, by decide⟩
theorem ml_X11_189 : pm_ml "ErrorSlicesModel" 189 me_X11_need 1 := ⟨pm_i5 237 rfl rfl, cd_X11_need, in_X11_need, nd_X11_need, by decide⟩
theorem ml_X11_209 : pm_ml "ErrorSlicesModel" 209 me_X11_begins 0 := ⟨pm_i6 1 rfl rfl, cd_X11_begins, in_X11_begins, nd_X11_begins, by decide⟩
theorem ml_X11_223 : pm_ml "ErrorSlicesModel" 223 me_X11_make 1 := ⟨pm_i6 5 rfl rfl, cd_X11_make, in_X11_make, nd_X11_make, by decide⟩
theorem ml_X11_193 : pm_ml "ErrorSlicesModel" 193 me_X11_pass 1 := ⟨pm_i6 9 rfl rfl, cd_X11_pass, in_X11_pass, nd_X11_pass, by decide⟩
theorem ml_X11_226 : pm_ml "ErrorSlicesModel" 226 me_X11_take 2 := ⟨pm_i6 13 rfl rfl, cd_X11_take, in_X11_take, nd_X11_take, by decide⟩
theorem ml_X11_211 : pm_ml "ErrorSlicesModel" 211 me_X11_atom 0 := ⟨pm_i6 17 rfl rfl, cd_X11_atom, in_X11_atom, nd_X11_atom, by decide⟩
theorem ml_X11_230 : pm_ml "ErrorSlicesModel" 230 me_X11_single 1 := ⟨pm_i6 21 rfl rfl, cd_X11_single, in_X11_single, nd_X11_single, by decide⟩
theorem ml_X11_214 : pm_ml "ErrorSlicesModel" 214 me_X11_called 0 := ⟨pm_i6 25 rfl rfl, cd_X11_called, in_X11_called, nd_X11_called, by decide⟩
theorem ml_X11_217 : pm_ml "ErrorSlicesModel" 217 me_X11_ended 0 := ⟨pm_i6 29 rfl rfl, cd_X11_ended, in_X11_ended, nd_X11_ended, by decide⟩
theorem ml_X11_233 : pm_ml "ErrorSlicesModel" 233 me_X11_group 1 := ⟨pm_i6 33 rfl rfl, cd_X11_group, in_X11_group, nd_X11_group, by decide⟩
theorem ml_X11_346 : pm_ml "ErrorSlicesModel" 346 me_X11_settle 0 := ⟨pm_i6 37 rfl rfl, cd_X11_settle, in_X11_settle, nd_X11_settle, by decide⟩
theorem ml_X11_237 : pm_ml "ErrorSlicesModel" 237 me_X11_sameName 2 := ⟨pm_i6 41 rfl rfl, cd_X11_sameName, in_X11_sameName, nd_X11_sameName, by decide⟩
theorem ml_X11_349 : pm_ml "ErrorSlicesModel" 349 me_X11_expand 0 := ⟨pm_i6 45 rfl rfl, cd_X11_expand, in_X11_expand, nd_X11_expand, by decide⟩
theorem ml_X11_259 : pm_ml "ErrorSlicesModel" 259 me_X11_open 1 := ⟨pm_i6 49 rfl rfl, cd_X11_open, in_X11_open, nd_X11_open, by decide⟩
theorem ml_X11_247 : pm_ml "ErrorSlicesModel" 247 me_X11_low 1 := ⟨pm_i6 53 rfl rfl, cd_X11_low, in_X11_low, nd_X11_low, by decide⟩
theorem ml_X11_241 : pm_ml "ErrorSlicesModel" 241 me_X11_below 1 := ⟨pm_i6 57 rfl rfl, cd_X11_below, in_X11_below, nd_X11_below, by decide⟩
theorem ml_X11_250 : pm_ml "ErrorSlicesModel" 250 me_X11_high 1 := ⟨pm_i6 61 rfl rfl, cd_X11_high, in_X11_high, nd_X11_high, by decide⟩
theorem ml_X11_262 : pm_ml "ErrorSlicesModel" 262 me_X11_copyWith 2 := ⟨pm_i6 65 rfl rfl, cd_X11_copyWith, in_X11_copyWith, nd_X11_copyWith, by decide⟩
theorem ml_X11_244 : pm_ml "ErrorSlicesModel" 244 me_X11_holds 2 := ⟨pm_i6 69 rfl rfl, cd_X11_holds, in_X11_holds, nd_X11_holds, by decide⟩
theorem ml_X11_352 : pm_ml "ErrorSlicesModel" 352 me_X11_isFine 0 := ⟨pm_i6 73 rfl rfl, cd_X11_isFine, in_X11_isFine, nd_X11_isFine, by decide⟩
theorem ml_X11_289 : pm_ml "ErrorSlicesModel" 289 me_X11_fresh 3 := ⟨pm_i6 77 rfl rfl, cd_X11_fresh, in_X11_fresh, nd_X11_fresh, by decide⟩
theorem ml_X11_296 : pm_ml "ErrorSlicesModel" 296 me_X11_ask 3 := ⟨pm_i6 81 rfl rfl, cd_X11_ask, in_X11_ask, nd_X11_ask, by decide⟩
theorem ml_X11_277 : pm_ml "ErrorSlicesModel" 277 me_X11_typeOf 2 := ⟨pm_i6 85 rfl rfl, cd_X11_typeOf, in_X11_typeOf, nd_X11_typeOf, by decide⟩
theorem ml_X11_283 : pm_ml "ErrorSlicesModel" 283 me_X11_same 2 := ⟨pm_i6 89 rfl rfl, cd_X11_same, in_X11_same, nd_X11_same, by decide⟩
theorem ml_X11_274 : pm_ml "ErrorSlicesModel" 274 me_X11_root 1 := ⟨pm_i6 93 rfl rfl, cd_X11_root, in_X11_root, nd_X11_root, by decide⟩
theorem ml_X11_293 : pm_ml "ErrorSlicesModel" 293 me_X11_nameOf 2 := ⟨pm_i6 97 rfl rfl, cd_X11_nameOf, in_X11_nameOf, nd_X11_nameOf, by decide⟩
theorem ml_X11_300 : pm_ml "ErrorSlicesModel" 300 me_X11_isFinite 0 := ⟨pm_i6 101 rfl rfl, cd_X11_isFinite, in_X11_isFinite, nd_X11_isFinite, by decide⟩
theorem ml_X11_355 : pm_ml "ErrorSlicesModel" 355 me_X11_writeType 1 := ⟨pm_i6 105 rfl rfl, cd_X11_writeType, in_X11_writeType, nd_X11_writeType, by decide⟩
theorem ml_X11_323 : pm_ml "ErrorSlicesModel" 323 me_X11_writeWord 1 := ⟨pm_i6 113 rfl rfl, cd_X11_writeWord, in_X11_writeWord, nd_X11_writeWord, by decide⟩
theorem ml_X11_309 : pm_ml "ErrorSlicesModel" 309 me_X11_write 1 := ⟨pm_i6 118 rfl rfl, cd_X11_write, in_X11_write, nd_X11_write, by decide⟩
theorem ml_X11_331 : pm_ml "ErrorSlicesModel" 331 me_X11_letter 1 := ⟨pm_i6 124 rfl rfl, cd_X11_letter, in_X11_letter, nd_X11_letter, by decide⟩
theorem ml_X11_358 : pm_ml "ErrorSlicesModel" 358 me_X11_writeSlice 0 := ⟨pm_i6 128 rfl rfl, cd_X11_writeSlice, in_X11_writeSlice, nd_X11_writeSlice, by decide⟩
theorem ml_L_28 : pm_ml "ErrorSlicesLaw" 28 me_X11_place 0 := ⟨pm_i6 135 rfl rfl, cd_X11_place, in_X11_place, nd_X11_place, by decide⟩
theorem ml_L_33 : pm_ml "ErrorSlicesLaw" 33 me_X11_isIn 1 := ⟨pm_i6 139 rfl rfl, cd_X11_isIn, in_X11_isIn, nd_X11_isIn, by decide⟩
theorem ml_L_38 : pm_ml "ErrorSlicesLaw" 38 me_X11_fetch 0 := ⟨pm_i6 143 rfl rfl, cd_X11_fetch, in_X11_fetch, nd_X11_fetch, by decide⟩
theorem ml_L_43 : pm_ml "ErrorSlicesLaw" 43 me_X11_count 1 := ⟨pm_i6 147 rfl rfl, cd_X11_count, in_X11_count, nd_X11_count, by decide⟩
theorem oi_2 : Cond.instanceMethod Lib.objectInit ∈ pm_T := pm_i1 24 rfl rfl
theorem oi_3 : Cond.code Lib.objectInit ⟨#[0xb1]⟩ 1 none ∈ pm_T := pm_i1 25 rfl rfl
