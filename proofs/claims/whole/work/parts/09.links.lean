def CIt (y : MethodName) (cc' : ByteArray) (nL' n : Nat) : Prop := Cal y cc' nL' none n ∧ Cond.instanceMethod y ∈ gtbl ∧ y.name = "<init>"
theorem gt1 {w : Cond} (i : Nat) (h : tables_1_1[i]? = some w) (hg : goodWord w = true) : w ∈ gtbl := by
  have h9 := List.mem_of_getElem? h
  exact gtbl_of (List.mem_append_right _ (List.mem_append_left _ h9)) hg
theorem gt2 {w : Cond} (i : Nat) (h : tables_1_2[i]? = some w) (hg : goodWord w = true) : w ∈ gtbl := by
  have h9 := List.mem_of_getElem? h
  exact gtbl_of (List.mem_append_right _ (List.mem_append_right _ (List.mem_append_left _ h9))) hg
theorem gt3 {w : Cond} (i : Nat) (h : tables_1_3[i]? = some w) (hg : goodWord w = true) : w ∈ gtbl := by
  have h9 := List.mem_of_getElem? h
  exact gtbl_of (List.mem_append_right _ (List.mem_append_right _ (List.mem_append_right _ (List.mem_append_left _ h9)))) hg
theorem gt4 {w : Cond} (i : Nat) (h : tables_1_4[i]? = some w) (hg : goodWord w = true) : w ∈ gtbl := by
  have h9 := List.mem_of_getElem? h
  exact gtbl_of (List.mem_append_right _ (List.mem_append_right _ (List.mem_append_right _ (List.mem_append_right _ (List.mem_append_left _ h9))))) hg
theorem gt5 {w : Cond} (i : Nat) (h : tables_1_5[i]? = some w) (hg : goodWord w = true) : w ∈ gtbl := by
  have h9 := List.mem_of_getElem? h
  exact gtbl_of (List.mem_append_right _ (List.mem_append_right _ (List.mem_append_right _ (List.mem_append_right _ (List.mem_append_right _ (List.mem_append_left _ h9)))))) hg
theorem gt6 {w : Cond} (i : Nat) (h : tables_1_6[i]? = some w) (hg : goodWord w = true) : w ∈ gtbl := by
  have h9 := List.mem_of_getElem? h
  exact gtbl_of (List.mem_append_right _ (List.mem_append_right _ (List.mem_append_right _ (List.mem_append_right _ (List.mem_append_right _ (List.mem_append_right _ (List.mem_append_left _ h9))))))) hg
theorem gt7 {w : Cond} (i : Nat) (h : tables_1_7[i]? = some w) (hg : goodWord w = true) : w ∈ gtbl := by
  have h9 := List.mem_of_getElem? h
  exact gtbl_of (List.mem_append_right _ (List.mem_append_right _ (List.mem_append_right _ (List.mem_append_right _ (List.mem_append_right _ (List.mem_append_right _ (List.mem_append_right _ (List.mem_append_left _ h9)))))))) hg
theorem gt8 {w : Cond} (i : Nat) (h : tables_1_8[i]? = some w) (hg : goodWord w = true) : w ∈ gtbl := by
  have h9 := List.mem_of_getElem? h
  exact gtbl_of (List.mem_append_right _ (List.mem_append_right _ (List.mem_append_right _ (List.mem_append_right _ (List.mem_append_right _ (List.mem_append_right _ (List.mem_append_right _ (List.mem_append_right _ (List.mem_append_left _ h9))))))))) hg
theorem gt9 {w : Cond} (i : Nat) (h : tables_1_9[i]? = some w) (hg : goodWord w = true) : w ∈ gtbl := by
  have h9 := List.mem_of_getElem? h
  exact gtbl_of (List.mem_append_right _ (List.mem_append_right _ (List.mem_append_right _ (List.mem_append_right _ (List.mem_append_right _ (List.mem_append_right _ (List.mem_append_right _ (List.mem_append_right _ (List.mem_append_right _ (h9)))))))))) hg
theorem gtp {w : Cond} (i : Nat) (h : (k2_sels lw_privs)[i]? = some w) (hg : goodWord w = true) : w ∈ gtbl := gtbl_of (List.mem_append_left _ (List.mem_of_getElem? h)) hg
theorem la_0_0 : u_lay RX0 TX0 0 ∈ gtbl := gt2 123 rfl rfl
theorem la_0_1 : u_lay RX0 TX0 1 ∈ gtbl := gt2 125 rfl rfl
theorem la_0_2 : u_lay RX0 TX0 2 ∈ gtbl := gt2 127 rfl rfl
theorem la_0_3 : u_lay RX0 TX0 3 ∈ gtbl := gt2 129 rfl rfl
theorem la_0_4 : u_lay RX0 TX0 4 ∈ gtbl := gt2 131 rfl rfl
set_option maxRecDepth 20000 in
theorem cl0 : CL 0 RX0 TX0 5 := ⟨rfl, (show ∀ w ∈ [u_lay RX0 TX0 0, u_lay RX0 TX0 1, u_lay RX0 TX0 2, u_lay RX0 TX0 3, u_lay RX0 TX0 4], w ∈ gtbl from List.forall_mem_cons.mpr ⟨la_0_0, List.forall_mem_cons.mpr ⟨la_0_1, List.forall_mem_cons.mpr ⟨la_0_2, List.forall_mem_cons.mpr ⟨la_0_3, List.forall_mem_cons.mpr ⟨la_0_4, fun w h => absurd h List.not_mem_nil⟩⟩⟩⟩⟩), tyX0_ok, nmX0, by decide⟩
theorem la_1_0 : u_lay RX1 TX1 0 ∈ gtbl := gt1 207 rfl rfl
theorem la_1_1 : u_lay RX1 TX1 1 ∈ gtbl := gt1 209 rfl rfl
theorem la_1_2 : u_lay RX1 TX1 2 ∈ gtbl := gt1 211 rfl rfl
theorem la_1_3 : u_lay RX1 TX1 3 ∈ gtbl := gt1 213 rfl rfl
theorem la_1_4 : u_lay RX1 TX1 4 ∈ gtbl := gt1 215 rfl rfl
theorem la_1_5 : u_lay RX1 TX1 5 ∈ gtbl := gt1 217 rfl rfl
theorem la_1_6 : u_lay RX1 TX1 6 ∈ gtbl := gt1 219 rfl rfl
theorem la_1_7 : u_lay RX1 TX1 7 ∈ gtbl := gt1 221 rfl rfl
theorem la_1_8 : u_lay RX1 TX1 8 ∈ gtbl := gt1 223 rfl rfl
theorem la_1_9 : u_lay RX1 TX1 9 ∈ gtbl := gt1 225 rfl rfl
set_option maxRecDepth 20000 in
theorem cl1 : CL 1 RX1 TX1 10 := ⟨rfl, (show ∀ w ∈ [u_lay RX1 TX1 0, u_lay RX1 TX1 1, u_lay RX1 TX1 2, u_lay RX1 TX1 3, u_lay RX1 TX1 4, u_lay RX1 TX1 5, u_lay RX1 TX1 6, u_lay RX1 TX1 7, u_lay RX1 TX1 8, u_lay RX1 TX1 9], w ∈ gtbl from List.forall_mem_cons.mpr ⟨la_1_0, List.forall_mem_cons.mpr ⟨la_1_1, List.forall_mem_cons.mpr ⟨la_1_2, List.forall_mem_cons.mpr ⟨la_1_3, List.forall_mem_cons.mpr ⟨la_1_4, List.forall_mem_cons.mpr ⟨la_1_5, List.forall_mem_cons.mpr ⟨la_1_6, List.forall_mem_cons.mpr ⟨la_1_7, List.forall_mem_cons.mpr ⟨la_1_8, List.forall_mem_cons.mpr ⟨la_1_9, fun w h => absurd h List.not_mem_nil⟩⟩⟩⟩⟩⟩⟩⟩⟩⟩), tyX1_ok, nmX1, by decide⟩
theorem la_2_0 : u_lay RX2 TX2 0 ∈ gtbl := gt1 186 rfl rfl
theorem la_2_1 : u_lay RX2 TX2 1 ∈ gtbl := gt1 188 rfl rfl
set_option maxRecDepth 20000 in
theorem cl2 : CL 2 RX2 TX2 2 := ⟨rfl, (show ∀ w ∈ [u_lay RX2 TX2 0, u_lay RX2 TX2 1], w ∈ gtbl from List.forall_mem_cons.mpr ⟨la_2_0, List.forall_mem_cons.mpr ⟨la_2_1, fun w h => absurd h List.not_mem_nil⟩⟩), tyX2_ok, nmX2, by decide⟩
theorem la_3_0 : u_lay RX3 TX3 0 ∈ gtbl := gt2 40 rfl rfl
theorem la_3_1 : u_lay RX3 TX3 1 ∈ gtbl := gt2 42 rfl rfl
theorem la_3_2 : u_lay RX3 TX3 2 ∈ gtbl := gt2 44 rfl rfl
theorem la_3_3 : u_lay RX3 TX3 3 ∈ gtbl := gt2 46 rfl rfl
theorem la_3_4 : u_lay RX3 TX3 4 ∈ gtbl := gt2 48 rfl rfl
theorem la_3_5 : u_lay RX3 TX3 5 ∈ gtbl := gt2 50 rfl rfl
theorem la_3_6 : u_lay RX3 TX3 6 ∈ gtbl := gt2 52 rfl rfl
theorem la_3_7 : u_lay RX3 TX3 7 ∈ gtbl := gt2 54 rfl rfl
theorem la_3_8 : u_lay RX3 TX3 8 ∈ gtbl := gt2 56 rfl rfl
theorem la_3_9 : u_lay RX3 TX3 9 ∈ gtbl := gt2 58 rfl rfl
set_option maxRecDepth 20000 in
theorem cl3 : CL 3 RX3 TX3 10 := ⟨rfl, (show ∀ w ∈ [u_lay RX3 TX3 0, u_lay RX3 TX3 1, u_lay RX3 TX3 2, u_lay RX3 TX3 3, u_lay RX3 TX3 4, u_lay RX3 TX3 5, u_lay RX3 TX3 6, u_lay RX3 TX3 7, u_lay RX3 TX3 8, u_lay RX3 TX3 9], w ∈ gtbl from List.forall_mem_cons.mpr ⟨la_3_0, List.forall_mem_cons.mpr ⟨la_3_1, List.forall_mem_cons.mpr ⟨la_3_2, List.forall_mem_cons.mpr ⟨la_3_3, List.forall_mem_cons.mpr ⟨la_3_4, List.forall_mem_cons.mpr ⟨la_3_5, List.forall_mem_cons.mpr ⟨la_3_6, List.forall_mem_cons.mpr ⟨la_3_7, List.forall_mem_cons.mpr ⟨la_3_8, List.forall_mem_cons.mpr ⟨la_3_9, fun w h => absurd h List.not_mem_nil⟩⟩⟩⟩⟩⟩⟩⟩⟩⟩), tyX3_ok, nmX3, by decide⟩
theorem la_4_0 : u_lay RX4 TX4 0 ∈ gtbl := gt2 76 rfl rfl
theorem la_4_1 : u_lay RX4 TX4 1 ∈ gtbl := gt2 78 rfl rfl
theorem la_4_2 : u_lay RX4 TX4 2 ∈ gtbl := gt2 80 rfl rfl
theorem la_4_3 : u_lay RX4 TX4 3 ∈ gtbl := gt2 82 rfl rfl
theorem la_4_4 : u_lay RX4 TX4 4 ∈ gtbl := gt2 84 rfl rfl
set_option maxRecDepth 20000 in
theorem cl4 : CL 4 RX4 TX4 5 := ⟨rfl, (show ∀ w ∈ [u_lay RX4 TX4 0, u_lay RX4 TX4 1, u_lay RX4 TX4 2, u_lay RX4 TX4 3, u_lay RX4 TX4 4], w ∈ gtbl from List.forall_mem_cons.mpr ⟨la_4_0, List.forall_mem_cons.mpr ⟨la_4_1, List.forall_mem_cons.mpr ⟨la_4_2, List.forall_mem_cons.mpr ⟨la_4_3, List.forall_mem_cons.mpr ⟨la_4_4, fun w h => absurd h List.not_mem_nil⟩⟩⟩⟩⟩), tyX4_ok, nmX4, by decide⟩
theorem la_5_0 : u_lay RX5 TX5 0 ∈ gtbl := gt1 166 rfl rfl
theorem la_5_1 : u_lay RX5 TX5 1 ∈ gtbl := gt1 168 rfl rfl
set_option maxRecDepth 20000 in
theorem cl5 : CL 5 RX5 TX5 2 := ⟨rfl, (show ∀ w ∈ [u_lay RX5 TX5 0, u_lay RX5 TX5 1], w ∈ gtbl from List.forall_mem_cons.mpr ⟨la_5_0, List.forall_mem_cons.mpr ⟨la_5_1, fun w h => absurd h List.not_mem_nil⟩⟩), tyX5_ok, nmX5, by decide⟩
theorem la_6_0 : u_lay RX6 TX6 0 ∈ gtbl := gt1 69 rfl rfl
theorem la_6_1 : u_lay RX6 TX6 1 ∈ gtbl := gt1 71 rfl rfl
set_option maxRecDepth 20000 in
theorem cl6 : CL 6 RX6 TX6 2 := ⟨rfl, (show ∀ w ∈ [u_lay RX6 TX6 0, u_lay RX6 TX6 1], w ∈ gtbl from List.forall_mem_cons.mpr ⟨la_6_0, List.forall_mem_cons.mpr ⟨la_6_1, fun w h => absurd h List.not_mem_nil⟩⟩), tyX6_ok, nmX6, by decide⟩
theorem la_7_0 : u_lay RX7 TX7 0 ∈ gtbl := gt2 2 rfl rfl
theorem la_7_1 : u_lay RX7 TX7 1 ∈ gtbl := gt2 4 rfl rfl
theorem la_7_2 : u_lay RX7 TX7 2 ∈ gtbl := gt2 6 rfl rfl
theorem la_7_3 : u_lay RX7 TX7 3 ∈ gtbl := gt2 8 rfl rfl
theorem la_7_4 : u_lay RX7 TX7 4 ∈ gtbl := gt2 10 rfl rfl
theorem la_7_5 : u_lay RX7 TX7 5 ∈ gtbl := gt2 12 rfl rfl
theorem la_7_6 : u_lay RX7 TX7 6 ∈ gtbl := gt2 14 rfl rfl
theorem la_7_7 : u_lay RX7 TX7 7 ∈ gtbl := gt2 16 rfl rfl
set_option maxRecDepth 20000 in
theorem cl7 : CL 7 RX7 TX7 8 := ⟨rfl, (show ∀ w ∈ [u_lay RX7 TX7 0, u_lay RX7 TX7 1, u_lay RX7 TX7 2, u_lay RX7 TX7 3, u_lay RX7 TX7 4, u_lay RX7 TX7 5, u_lay RX7 TX7 6, u_lay RX7 TX7 7], w ∈ gtbl from List.forall_mem_cons.mpr ⟨la_7_0, List.forall_mem_cons.mpr ⟨la_7_1, List.forall_mem_cons.mpr ⟨la_7_2, List.forall_mem_cons.mpr ⟨la_7_3, List.forall_mem_cons.mpr ⟨la_7_4, List.forall_mem_cons.mpr ⟨la_7_5, List.forall_mem_cons.mpr ⟨la_7_6, List.forall_mem_cons.mpr ⟨la_7_7, fun w h => absurd h List.not_mem_nil⟩⟩⟩⟩⟩⟩⟩⟩), tyX7_ok, nmX7, by decide⟩
theorem la_8_0 : u_lay RX8 TX8 0 ∈ gtbl := gt2 99 rfl rfl
theorem la_8_1 : u_lay RX8 TX8 1 ∈ gtbl := gt2 101 rfl rfl
theorem la_8_2 : u_lay RX8 TX8 2 ∈ gtbl := gt2 103 rfl rfl
theorem la_8_3 : u_lay RX8 TX8 3 ∈ gtbl := gt2 105 rfl rfl
theorem la_8_4 : u_lay RX8 TX8 4 ∈ gtbl := gt2 107 rfl rfl
set_option maxRecDepth 20000 in
theorem cl8 : CL 8 RX8 TX8 5 := ⟨rfl, (show ∀ w ∈ [u_lay RX8 TX8 0, u_lay RX8 TX8 1, u_lay RX8 TX8 2, u_lay RX8 TX8 3, u_lay RX8 TX8 4], w ∈ gtbl from List.forall_mem_cons.mpr ⟨la_8_0, List.forall_mem_cons.mpr ⟨la_8_1, List.forall_mem_cons.mpr ⟨la_8_2, List.forall_mem_cons.mpr ⟨la_8_3, List.forall_mem_cons.mpr ⟨la_8_4, fun w h => absurd h List.not_mem_nil⟩⟩⟩⟩⟩), tyX8_ok, nmX8, by decide⟩
theorem la_9_0 : u_lay RX9 TX9 0 ∈ gtbl := gt1 125 rfl rfl
theorem la_9_1 : u_lay RX9 TX9 1 ∈ gtbl := gt1 127 rfl rfl
theorem la_9_2 : u_lay RX9 TX9 2 ∈ gtbl := gt1 129 rfl rfl
theorem la_9_3 : u_lay RX9 TX9 3 ∈ gtbl := gt1 131 rfl rfl
theorem la_9_4 : u_lay RX9 TX9 4 ∈ gtbl := gt1 133 rfl rfl
theorem la_9_5 : u_lay RX9 TX9 5 ∈ gtbl := gt1 135 rfl rfl
theorem la_9_6 : u_lay RX9 TX9 6 ∈ gtbl := gt1 137 rfl rfl
theorem la_9_7 : u_lay RX9 TX9 7 ∈ gtbl := gt1 139 rfl rfl
theorem la_9_8 : u_lay RX9 TX9 8 ∈ gtbl := gt1 141 rfl rfl
theorem la_9_9 : u_lay RX9 TX9 9 ∈ gtbl := gt1 143 rfl rfl
theorem la_9_10 : u_lay RX9 TX9 10 ∈ gtbl := gt1 145 rfl rfl
theorem la_9_11 : u_lay RX9 TX9 11 ∈ gtbl := gt1 147 rfl rfl
theorem la_9_12 : u_lay RX9 TX9 12 ∈ gtbl := gt1 149 rfl rfl
set_option maxRecDepth 20000 in
theorem cl9 : CL 9 RX9 TX9 13 := ⟨rfl, (show ∀ w ∈ [u_lay RX9 TX9 0, u_lay RX9 TX9 1, u_lay RX9 TX9 2, u_lay RX9 TX9 3, u_lay RX9 TX9 4, u_lay RX9 TX9 5, u_lay RX9 TX9 6, u_lay RX9 TX9 7, u_lay RX9 TX9 8, u_lay RX9 TX9 9, u_lay RX9 TX9 10, u_lay RX9 TX9 11, u_lay RX9 TX9 12], w ∈ gtbl from List.forall_mem_cons.mpr ⟨la_9_0, List.forall_mem_cons.mpr ⟨la_9_1, List.forall_mem_cons.mpr ⟨la_9_2, List.forall_mem_cons.mpr ⟨la_9_3, List.forall_mem_cons.mpr ⟨la_9_4, List.forall_mem_cons.mpr ⟨la_9_5, List.forall_mem_cons.mpr ⟨la_9_6, List.forall_mem_cons.mpr ⟨la_9_7, List.forall_mem_cons.mpr ⟨la_9_8, List.forall_mem_cons.mpr ⟨la_9_9, List.forall_mem_cons.mpr ⟨la_9_10, List.forall_mem_cons.mpr ⟨la_9_11, List.forall_mem_cons.mpr ⟨la_9_12, fun w h => absurd h List.not_mem_nil⟩⟩⟩⟩⟩⟩⟩⟩⟩⟩⟩⟩⟩), tyX9_ok, nmX9, by decide⟩
theorem la_10_0 : u_lay RX10 TX10 0 ∈ gtbl := gt1 47 rfl rfl
theorem la_10_1 : u_lay RX10 TX10 1 ∈ gtbl := gt1 49 rfl rfl
theorem la_10_2 : u_lay RX10 TX10 2 ∈ gtbl := gt1 51 rfl rfl
theorem la_10_3 : u_lay RX10 TX10 3 ∈ gtbl := gt1 53 rfl rfl
theorem la_10_4 : u_lay RX10 TX10 4 ∈ gtbl := gt1 55 rfl rfl
set_option maxRecDepth 20000 in
theorem cl10 : CL 10 RX10 TX10 5 := ⟨rfl, (show ∀ w ∈ [u_lay RX10 TX10 0, u_lay RX10 TX10 1, u_lay RX10 TX10 2, u_lay RX10 TX10 3, u_lay RX10 TX10 4], w ∈ gtbl from List.forall_mem_cons.mpr ⟨la_10_0, List.forall_mem_cons.mpr ⟨la_10_1, List.forall_mem_cons.mpr ⟨la_10_2, List.forall_mem_cons.mpr ⟨la_10_3, List.forall_mem_cons.mpr ⟨la_10_4, fun w h => absurd h List.not_mem_nil⟩⟩⟩⟩⟩), tyX10_ok, nmX10, by decide⟩
theorem la_11_0 : u_lay RX11 TX11 0 ∈ gtbl := gt2 147 rfl rfl
theorem la_11_1 : u_lay RX11 TX11 1 ∈ gtbl := gt2 149 rfl rfl
theorem la_11_2 : u_lay RX11 TX11 2 ∈ gtbl := gt2 151 rfl rfl
theorem la_11_3 : u_lay RX11 TX11 3 ∈ gtbl := gt2 153 rfl rfl
theorem la_11_4 : u_lay RX11 TX11 4 ∈ gtbl := gt2 155 rfl rfl
theorem la_11_5 : u_lay RX11 TX11 5 ∈ gtbl := gt2 157 rfl rfl
theorem la_11_6 : u_lay RX11 TX11 6 ∈ gtbl := gt2 159 rfl rfl
theorem la_11_7 : u_lay RX11 TX11 7 ∈ gtbl := gt2 161 rfl rfl
theorem la_11_8 : u_lay RX11 TX11 8 ∈ gtbl := gt2 163 rfl rfl
theorem la_11_9 : u_lay RX11 TX11 9 ∈ gtbl := gt2 165 rfl rfl
theorem la_11_10 : u_lay RX11 TX11 10 ∈ gtbl := gt2 167 rfl rfl
theorem la_11_11 : u_lay RX11 TX11 11 ∈ gtbl := gt2 169 rfl rfl
theorem la_11_12 : u_lay RX11 TX11 12 ∈ gtbl := gt2 171 rfl rfl
set_option maxRecDepth 20000 in
theorem cl11 : CL 11 RX11 TX11 13 := ⟨rfl, (show ∀ w ∈ [u_lay RX11 TX11 0, u_lay RX11 TX11 1, u_lay RX11 TX11 2, u_lay RX11 TX11 3, u_lay RX11 TX11 4, u_lay RX11 TX11 5, u_lay RX11 TX11 6, u_lay RX11 TX11 7, u_lay RX11 TX11 8, u_lay RX11 TX11 9, u_lay RX11 TX11 10, u_lay RX11 TX11 11, u_lay RX11 TX11 12], w ∈ gtbl from List.forall_mem_cons.mpr ⟨la_11_0, List.forall_mem_cons.mpr ⟨la_11_1, List.forall_mem_cons.mpr ⟨la_11_2, List.forall_mem_cons.mpr ⟨la_11_3, List.forall_mem_cons.mpr ⟨la_11_4, List.forall_mem_cons.mpr ⟨la_11_5, List.forall_mem_cons.mpr ⟨la_11_6, List.forall_mem_cons.mpr ⟨la_11_7, List.forall_mem_cons.mpr ⟨la_11_8, List.forall_mem_cons.mpr ⟨la_11_9, List.forall_mem_cons.mpr ⟨la_11_10, List.forall_mem_cons.mpr ⟨la_11_11, List.forall_mem_cons.mpr ⟨la_11_12, fun w h => absurd h List.not_mem_nil⟩⟩⟩⟩⟩⟩⟩⟩⟩⟩⟩⟩⟩), tyX11_ok, nmX11, by decide⟩
theorem la_12_0 : u_lay RX12 TX12 0 ∈ gtbl := gt7 6 rfl rfl
theorem la_12_1 : u_lay RX12 TX12 1 ∈ gtbl := gt7 8 rfl rfl
theorem la_12_2 : u_lay RX12 TX12 2 ∈ gtbl := gt7 10 rfl rfl
theorem la_12_3 : u_lay RX12 TX12 3 ∈ gtbl := gt7 12 rfl rfl
theorem la_12_4 : u_lay RX12 TX12 4 ∈ gtbl := gt7 14 rfl rfl
theorem la_12_5 : u_lay RX12 TX12 5 ∈ gtbl := gt7 16 rfl rfl
theorem la_12_6 : u_lay RX12 TX12 6 ∈ gtbl := gt7 18 rfl rfl
theorem la_12_7 : u_lay RX12 TX12 7 ∈ gtbl := gt7 20 rfl rfl
theorem la_12_8 : u_lay RX12 TX12 8 ∈ gtbl := gt7 22 rfl rfl
theorem la_12_9 : u_lay RX12 TX12 9 ∈ gtbl := gt7 24 rfl rfl
theorem la_12_10 : u_lay RX12 TX12 10 ∈ gtbl := gt7 26 rfl rfl
theorem la_12_11 : u_lay RX12 TX12 11 ∈ gtbl := gt7 28 rfl rfl
theorem la_12_12 : u_lay RX12 TX12 12 ∈ gtbl := gt7 30 rfl rfl
theorem la_12_13 : u_lay RX12 TX12 13 ∈ gtbl := gt7 32 rfl rfl
theorem la_12_14 : u_lay RX12 TX12 14 ∈ gtbl := gt7 34 rfl rfl
theorem la_12_15 : u_lay RX12 TX12 15 ∈ gtbl := gt7 36 rfl rfl
theorem la_12_16 : u_lay RX12 TX12 16 ∈ gtbl := gt7 38 rfl rfl
theorem la_12_17 : u_lay RX12 TX12 17 ∈ gtbl := gt7 40 rfl rfl
theorem la_12_18 : u_lay RX12 TX12 18 ∈ gtbl := gt7 42 rfl rfl
theorem la_12_19 : u_lay RX12 TX12 19 ∈ gtbl := gt7 44 rfl rfl
theorem la_12_20 : u_lay RX12 TX12 20 ∈ gtbl := gt7 46 rfl rfl
theorem la_12_21 : u_lay RX12 TX12 21 ∈ gtbl := gt7 48 rfl rfl
theorem la_12_22 : u_lay RX12 TX12 22 ∈ gtbl := gt7 50 rfl rfl
theorem la_12_23 : u_lay RX12 TX12 23 ∈ gtbl := gt7 52 rfl rfl
theorem la_12_24 : u_lay RX12 TX12 24 ∈ gtbl := gt7 54 rfl rfl
theorem la_12_25 : u_lay RX12 TX12 25 ∈ gtbl := gt7 56 rfl rfl
theorem la_12_26 : u_lay RX12 TX12 26 ∈ gtbl := gt7 58 rfl rfl
theorem la_12_27 : u_lay RX12 TX12 27 ∈ gtbl := gt7 60 rfl rfl
theorem la_12_28 : u_lay RX12 TX12 28 ∈ gtbl := gt7 62 rfl rfl
theorem la_12_29 : u_lay RX12 TX12 29 ∈ gtbl := gt7 64 rfl rfl
theorem la_12_30 : u_lay RX12 TX12 30 ∈ gtbl := gt7 66 rfl rfl
theorem la_12_31 : u_lay RX12 TX12 31 ∈ gtbl := gt7 68 rfl rfl
theorem la_12_32 : u_lay RX12 TX12 32 ∈ gtbl := gt7 70 rfl rfl
theorem la_12_33 : u_lay RX12 TX12 33 ∈ gtbl := gt7 72 rfl rfl
theorem la_12_34 : u_lay RX12 TX12 34 ∈ gtbl := gt7 74 rfl rfl
theorem la_12_35 : u_lay RX12 TX12 35 ∈ gtbl := gt7 76 rfl rfl
theorem la_12_36 : u_lay RX12 TX12 36 ∈ gtbl := gt7 78 rfl rfl
theorem la_12_37 : u_lay RX12 TX12 37 ∈ gtbl := gt7 80 rfl rfl
theorem la_12_38 : u_lay RX12 TX12 38 ∈ gtbl := gt7 82 rfl rfl
theorem la_12_39 : u_lay RX12 TX12 39 ∈ gtbl := gt7 84 rfl rfl
theorem la_12_40 : u_lay RX12 TX12 40 ∈ gtbl := gt7 86 rfl rfl
theorem la_12_41 : u_lay RX12 TX12 41 ∈ gtbl := gt7 88 rfl rfl
theorem la_12_42 : u_lay RX12 TX12 42 ∈ gtbl := gt7 90 rfl rfl
theorem la_12_43 : u_lay RX12 TX12 43 ∈ gtbl := gt7 92 rfl rfl
theorem la_12_44 : u_lay RX12 TX12 44 ∈ gtbl := gt7 94 rfl rfl
theorem la_12_45 : u_lay RX12 TX12 45 ∈ gtbl := gt7 96 rfl rfl
theorem la_12_46 : u_lay RX12 TX12 46 ∈ gtbl := gt7 98 rfl rfl
theorem la_12_47 : u_lay RX12 TX12 47 ∈ gtbl := gt7 100 rfl rfl
theorem la_12_48 : u_lay RX12 TX12 48 ∈ gtbl := gt7 102 rfl rfl
theorem la_12_49 : u_lay RX12 TX12 49 ∈ gtbl := gt7 104 rfl rfl
theorem la_12_50 : u_lay RX12 TX12 50 ∈ gtbl := gt7 106 rfl rfl
theorem la_12_51 : u_lay RX12 TX12 51 ∈ gtbl := gt7 108 rfl rfl
theorem la_12_52 : u_lay RX12 TX12 52 ∈ gtbl := gt7 110 rfl rfl
theorem la_12_53 : u_lay RX12 TX12 53 ∈ gtbl := gt7 112 rfl rfl
theorem la_12_54 : u_lay RX12 TX12 54 ∈ gtbl := gt7 114 rfl rfl
theorem la_12_55 : u_lay RX12 TX12 55 ∈ gtbl := gt7 116 rfl rfl
theorem la_12_56 : u_lay RX12 TX12 56 ∈ gtbl := gt7 118 rfl rfl
theorem la_12_57 : u_lay RX12 TX12 57 ∈ gtbl := gt7 120 rfl rfl
theorem la_12_58 : u_lay RX12 TX12 58 ∈ gtbl := gt7 122 rfl rfl
set_option maxRecDepth 20000 in
theorem cl12 : CL 12 RX12 TX12 59 := ⟨rfl, (show ∀ w ∈ [u_lay RX12 TX12 0, u_lay RX12 TX12 1, u_lay RX12 TX12 2, u_lay RX12 TX12 3, u_lay RX12 TX12 4, u_lay RX12 TX12 5, u_lay RX12 TX12 6, u_lay RX12 TX12 7, u_lay RX12 TX12 8, u_lay RX12 TX12 9, u_lay RX12 TX12 10, u_lay RX12 TX12 11, u_lay RX12 TX12 12, u_lay RX12 TX12 13, u_lay RX12 TX12 14, u_lay RX12 TX12 15, u_lay RX12 TX12 16, u_lay RX12 TX12 17, u_lay RX12 TX12 18, u_lay RX12 TX12 19, u_lay RX12 TX12 20, u_lay RX12 TX12 21, u_lay RX12 TX12 22, u_lay RX12 TX12 23, u_lay RX12 TX12 24, u_lay RX12 TX12 25, u_lay RX12 TX12 26, u_lay RX12 TX12 27, u_lay RX12 TX12 28, u_lay RX12 TX12 29, u_lay RX12 TX12 30, u_lay RX12 TX12 31, u_lay RX12 TX12 32, u_lay RX12 TX12 33, u_lay RX12 TX12 34, u_lay RX12 TX12 35, u_lay RX12 TX12 36, u_lay RX12 TX12 37, u_lay RX12 TX12 38, u_lay RX12 TX12 39, u_lay RX12 TX12 40, u_lay RX12 TX12 41, u_lay RX12 TX12 42, u_lay RX12 TX12 43, u_lay RX12 TX12 44, u_lay RX12 TX12 45, u_lay RX12 TX12 46, u_lay RX12 TX12 47, u_lay RX12 TX12 48, u_lay RX12 TX12 49, u_lay RX12 TX12 50, u_lay RX12 TX12 51, u_lay RX12 TX12 52, u_lay RX12 TX12 53, u_lay RX12 TX12 54, u_lay RX12 TX12 55, u_lay RX12 TX12 56, u_lay RX12 TX12 57, u_lay RX12 TX12 58], w ∈ gtbl from List.forall_mem_cons.mpr ⟨la_12_0, List.forall_mem_cons.mpr ⟨la_12_1, List.forall_mem_cons.mpr ⟨la_12_2, List.forall_mem_cons.mpr ⟨la_12_3, List.forall_mem_cons.mpr ⟨la_12_4, List.forall_mem_cons.mpr ⟨la_12_5, List.forall_mem_cons.mpr ⟨la_12_6, List.forall_mem_cons.mpr ⟨la_12_7, List.forall_mem_cons.mpr ⟨la_12_8, List.forall_mem_cons.mpr ⟨la_12_9, List.forall_mem_cons.mpr ⟨la_12_10, List.forall_mem_cons.mpr ⟨la_12_11, List.forall_mem_cons.mpr ⟨la_12_12, List.forall_mem_cons.mpr ⟨la_12_13, List.forall_mem_cons.mpr ⟨la_12_14, List.forall_mem_cons.mpr ⟨la_12_15, List.forall_mem_cons.mpr ⟨la_12_16, List.forall_mem_cons.mpr ⟨la_12_17, List.forall_mem_cons.mpr ⟨la_12_18, List.forall_mem_cons.mpr ⟨la_12_19, List.forall_mem_cons.mpr ⟨la_12_20, List.forall_mem_cons.mpr ⟨la_12_21, List.forall_mem_cons.mpr ⟨la_12_22, List.forall_mem_cons.mpr ⟨la_12_23, List.forall_mem_cons.mpr ⟨la_12_24, List.forall_mem_cons.mpr ⟨la_12_25, List.forall_mem_cons.mpr ⟨la_12_26, List.forall_mem_cons.mpr ⟨la_12_27, List.forall_mem_cons.mpr ⟨la_12_28, List.forall_mem_cons.mpr ⟨la_12_29, List.forall_mem_cons.mpr ⟨la_12_30, List.forall_mem_cons.mpr ⟨la_12_31, List.forall_mem_cons.mpr ⟨la_12_32, List.forall_mem_cons.mpr ⟨la_12_33, List.forall_mem_cons.mpr ⟨la_12_34, List.forall_mem_cons.mpr ⟨la_12_35, List.forall_mem_cons.mpr ⟨la_12_36, List.forall_mem_cons.mpr ⟨la_12_37, List.forall_mem_cons.mpr ⟨la_12_38, List.forall_mem_cons.mpr ⟨la_12_39, List.forall_mem_cons.mpr ⟨la_12_40, List.forall_mem_cons.mpr ⟨la_12_41, List.forall_mem_cons.mpr ⟨la_12_42, List.forall_mem_cons.mpr ⟨la_12_43, List.forall_mem_cons.mpr ⟨la_12_44, List.forall_mem_cons.mpr ⟨la_12_45, List.forall_mem_cons.mpr ⟨la_12_46, List.forall_mem_cons.mpr ⟨la_12_47, List.forall_mem_cons.mpr ⟨la_12_48, List.forall_mem_cons.mpr ⟨la_12_49, List.forall_mem_cons.mpr ⟨la_12_50, List.forall_mem_cons.mpr ⟨la_12_51, List.forall_mem_cons.mpr ⟨la_12_52, List.forall_mem_cons.mpr ⟨la_12_53, List.forall_mem_cons.mpr ⟨la_12_54, List.forall_mem_cons.mpr ⟨la_12_55, List.forall_mem_cons.mpr ⟨la_12_56, List.forall_mem_cons.mpr ⟨la_12_57, List.forall_mem_cons.mpr ⟨la_12_58, fun w h => absurd h List.not_mem_nil⟩⟩⟩⟩⟩⟩⟩⟩⟩⟩⟩⟩⟩⟩⟩⟩⟩⟩⟩⟩⟩⟩⟩⟩⟩⟩⟩⟩⟩⟩⟩⟩⟩⟩⟩⟩⟩⟩⟩⟩⟩⟩⟩⟩⟩⟩⟩⟩⟩⟩⟩⟩⟩⟩⟩⟩⟩⟩⟩), tyX12_ok, nmX12, by decide⟩
theorem fl_X10_11 : FL RX10 11 10 0 2 true := ⟨RX10, TX10, 5, cl10, by decide, gt1 41 rfl rfl, rfl, rfl, fun _ => rfl⟩
theorem fl_X10_15 : FL RX10 15 10 1 0 false := ⟨RX10, TX10, 5, cl10, by decide, gt1 42 rfl rfl, rfl, rfl, fun _ => rfl⟩
theorem fl_X11_99 : FL RX11 99 10 1 0 false := ⟨RX10, TX10, 5, cl10, by decide, gt1 43 rfl rfl, rfl, rfl, fun h => by cases h⟩
theorem fl_X10_19 : FL RX10 19 10 2 0 false := ⟨RX10, TX10, 5, cl10, by decide, gt1 44 rfl rfl, rfl, rfl, fun _ => rfl⟩
theorem fl_X10_28 : FL RX10 28 10 3 0 false := ⟨RX10, TX10, 5, cl10, by decide, gt1 45 rfl rfl, rfl, rfl, fun _ => rfl⟩
theorem fl_X10_31 : FL RX10 31 10 4 0 false := ⟨RX10, TX10, 5, cl10, by decide, gt1 46 rfl rfl, rfl, rfl, fun _ => rfl⟩
theorem fl_X6_9 : FL RX6 9 6 0 2 true := ⟨RX6, TX6, 2, cl6, by decide, gt1 65 rfl rfl, rfl, rfl, fun _ => rfl⟩
theorem fl_X11_463 : FLr RX11 463 6 0 2 true := ⟨RX6, TX6, 2, cl6, by decide, gt1 66 rfl rfl, rfl, rfl⟩
theorem fl_X6_13 : FL RX6 13 6 1 0 false := ⟨RX6, TX6, 2, cl6, by decide, gt1 67 rfl rfl, rfl, rfl, fun _ => rfl⟩
theorem fl_X11_462 : FL RX11 462 6 1 0 false := ⟨RX6, TX6, 2, cl6, by decide, gt1 68 rfl rfl, rfl, rfl, fun h => by cases h⟩
theorem fl_X9_11 : FL RX9 11 9 0 2 true := ⟨RX9, TX9, 13, cl9, by decide, gt1 84 rfl rfl, rfl, rfl, fun _ => rfl⟩
theorem fl_X11_165 : FLr RX11 165 9 0 2 true := ⟨RX9, TX9, 13, cl9, by decide, gt1 85 rfl rfl, rfl, rfl⟩
theorem fl_X1_133 : FLr RX1 133 9 0 2 true := ⟨RX9, TX9, 13, cl9, by decide, gt1 86 rfl rfl, rfl, rfl⟩
theorem fl_X7_130 : FLr RX7 130 9 0 2 true := ⟨RX9, TX9, 13, cl9, by decide, gt1 87 rfl rfl, rfl, rfl⟩
theorem fl_X9_15 : FL RX9 15 9 1 2 true := ⟨RX9, TX9, 13, cl9, by decide, gt1 88 rfl rfl, rfl, rfl, fun _ => rfl⟩
theorem fl_X3_39 : FLr RX3 39 9 1 2 true := ⟨RX9, TX9, 13, cl9, by decide, gt1 89 rfl rfl, rfl, rfl⟩
theorem fl_X1_80 : FLr RX1 80 9 1 2 true := ⟨RX9, TX9, 13, cl9, by decide, gt1 90 rfl rfl, rfl, rfl⟩
theorem fl_X8_27 : FLr RX8 27 9 1 2 true := ⟨RX9, TX9, 13, cl9, by decide, gt1 91 rfl rfl, rfl, rfl⟩
theorem fl_X11_187 : FLr RX11 187 9 1 2 true := ⟨RX9, TX9, 13, cl9, by decide, gt1 92 rfl rfl, rfl, rfl⟩
theorem fl_X9_19 : FL RX9 19 9 2 2 true := ⟨RX9, TX9, 13, cl9, by decide, gt1 93 rfl rfl, rfl, rfl, fun _ => rfl⟩
theorem fl_X1_83 : FLr RX1 83 9 2 2 true := ⟨RX9, TX9, 13, cl9, by decide, gt1 94 rfl rfl, rfl, rfl⟩
theorem fl_X3_51 : FLr RX3 51 9 2 2 true := ⟨RX9, TX9, 13, cl9, by decide, gt1 95 rfl rfl, rfl, rfl⟩
theorem fl_X8_32 : FLr RX8 32 9 2 2 true := ⟨RX9, TX9, 13, cl9, by decide, gt1 96 rfl rfl, rfl, rfl⟩
theorem fl_X11_190 : FLr RX11 190 9 2 2 true := ⟨RX9, TX9, 13, cl9, by decide, gt1 97 rfl rfl, rfl, rfl⟩
theorem fl_X9_22 : FL RX9 22 9 3 2 true := ⟨RX9, TX9, 13, cl9, by decide, gt1 98 rfl rfl, rfl, rfl, fun _ => rfl⟩
theorem fl_X3_34 : FLr RX3 34 9 3 2 true := ⟨RX9, TX9, 13, cl9, by decide, gt1 99 rfl rfl, rfl, rfl⟩
theorem fl_X11_193 : FLr RX11 193 9 3 2 true := ⟨RX9, TX9, 13, cl9, by decide, gt1 100 rfl rfl, rfl, rfl⟩
theorem fl_X9_25 : FL RX9 25 9 4 2 true := ⟨RX9, TX9, 13, cl9, by decide, gt1 101 rfl rfl, rfl, rfl, fun _ => rfl⟩
theorem fl_X3_48 : FLr RX3 48 9 4 2 true := ⟨RX9, TX9, 13, cl9, by decide, gt1 102 rfl rfl, rfl, rfl⟩
theorem fl_X11_196 : FLr RX11 196 9 4 2 true := ⟨RX9, TX9, 13, cl9, by decide, gt1 103 rfl rfl, rfl, rfl⟩
theorem fl_X9_28 : FL RX9 28 9 5 2 true := ⟨RX9, TX9, 13, cl9, by decide, gt1 104 rfl rfl, rfl, rfl, fun _ => rfl⟩
theorem fl_X11_199 : FLr RX11 199 9 5 2 true := ⟨RX9, TX9, 13, cl9, by decide, gt1 105 rfl rfl, rfl, rfl⟩
theorem fl_X1_152 : FLr RX1 152 9 5 2 true := ⟨RX9, TX9, 13, cl9, by decide, gt1 106 rfl rfl, rfl, rfl⟩
theorem fl_X9_31 : FL RX9 31 9 6 2 true := ⟨RX9, TX9, 13, cl9, by decide, gt1 107 rfl rfl, rfl, rfl, fun _ => rfl⟩
theorem fl_X1_86 : FLr RX1 86 9 6 2 true := ⟨RX9, TX9, 13, cl9, by decide, gt1 108 rfl rfl, rfl, rfl⟩
theorem fl_X11_202 : FLr RX11 202 9 6 2 true := ⟨RX9, TX9, 13, cl9, by decide, gt1 109 rfl rfl, rfl, rfl⟩
theorem fl_X9_47 : FL RX9 47 9 7 0 false := ⟨RX9, TX9, 13, cl9, by decide, gt1 110 rfl rfl, rfl, rfl, fun _ => rfl⟩
theorem fl_X1_56 : FL RX1 56 9 7 0 false := ⟨RX9, TX9, 13, cl9, by decide, gt1 111 rfl rfl, rfl, rfl, fun h => by cases h⟩
theorem fl_X3_70 : FL RX3 70 9 7 0 false := ⟨RX9, TX9, 13, cl9, by decide, gt1 112 rfl rfl, rfl, rfl, fun h => by cases h⟩
theorem fl_X4_39 : FL RX4 39 9 7 0 false := ⟨RX9, TX9, 13, cl9, by decide, gt1 113 rfl rfl, rfl, rfl, fun h => by cases h⟩
theorem fl_X11_299 : FL RX11 299 9 7 0 false := ⟨RX9, TX9, 13, cl9, by decide, gt1 114 rfl rfl, rfl, rfl, fun h => by cases h⟩
theorem fl_X9_50 : FL RX9 50 9 8 0 false := ⟨RX9, TX9, 13, cl9, by decide, gt1 115 rfl rfl, rfl, rfl, fun _ => rfl⟩
theorem fl_X11_120 : FL RX11 120 9 8 0 false := ⟨RX9, TX9, 13, cl9, by decide, gt1 116 rfl rfl, rfl, rfl, fun h => by cases h⟩
theorem fl_X4_43 : FL RX4 43 9 8 0 false := ⟨RX9, TX9, 13, cl9, by decide, gt1 117 rfl rfl, rfl, rfl, fun h => by cases h⟩
theorem fl_X3_77 : FL RX3 77 9 8 0 false := ⟨RX9, TX9, 13, cl9, by decide, gt1 118 rfl rfl, rfl, rfl, fun h => by cases h⟩
theorem fl_X9_34 : FL RX9 34 9 9 0 false := ⟨RX9, TX9, 13, cl9, by decide, gt1 119 rfl rfl, rfl, rfl, fun _ => rfl⟩
theorem fl_X1_97 : FL RX1 97 9 9 0 false := ⟨RX9, TX9, 13, cl9, by decide, gt1 120 rfl rfl, rfl, rfl, fun h => by cases h⟩
theorem fl_X11_172 : FL RX11 172 9 9 0 false := ⟨RX9, TX9, 13, cl9, by decide, gt1 121 rfl rfl, rfl, rfl, fun h => by cases h⟩
theorem fl_X9_38 : FL RX9 38 9 10 2 true := ⟨RX9, TX9, 13, cl9, by decide, gt1 122 rfl rfl, rfl, rfl, fun _ => rfl⟩
theorem fl_X9_83 : FL RX9 83 9 11 0 false := ⟨RX9, TX9, 13, cl9, by decide, gt1 123 rfl rfl, rfl, rfl, fun _ => rfl⟩
theorem fl_X9_86 : FL RX9 86 9 12 0 false := ⟨RX9, TX9, 13, cl9, by decide, gt1 124 rfl rfl, rfl, rfl, fun _ => rfl⟩
theorem fl_X5_9 : FL RX5 9 5 0 2 true := ⟨RX5, TX5, 2, cl5, by decide, gt1 159 rfl rfl, rfl, rfl, fun _ => rfl⟩
theorem fl_X5_13 : FL RX5 13 5 1 0 false := ⟨RX5, TX5, 2, cl5, by decide, gt1 160 rfl rfl, rfl, rfl, fun _ => rfl⟩
theorem fl_X1_60 : FL RX1 60 5 1 0 false := ⟨RX5, TX5, 2, cl5, by decide, gt1 161 rfl rfl, rfl, rfl, fun h => by cases h⟩
theorem fl_X8_35 : FL RX8 35 5 1 0 false := ⟨RX5, TX5, 2, cl5, by decide, gt1 162 rfl rfl, rfl, rfl, fun h => by cases h⟩
theorem fl_X11_143 : FL RX11 143 5 1 0 false := ⟨RX5, TX5, 2, cl5, by decide, gt1 163 rfl rfl, rfl, rfl, fun h => by cases h⟩
theorem fl_X3_86 : FL RX3 86 5 1 0 false := ⟨RX5, TX5, 2, cl5, by decide, gt1 164 rfl rfl, rfl, rfl, fun h => by cases h⟩
theorem fl_X7_122 : FL RX7 122 5 1 0 false := ⟨RX5, TX5, 2, cl5, by decide, gt1 165 rfl rfl, rfl, rfl, fun h => by cases h⟩
theorem fl_X2_7 : FL RX2 7 2 0 1 false := ⟨RX2, TX2, 2, cl2, by decide, gt1 184 rfl rfl, rfl, rfl, fun _ => rfl⟩
theorem fl_X2_13 : FL RX2 13 2 1 1 false := ⟨RX2, TX2, 2, cl2, by decide, gt1 185 rfl rfl, rfl, rfl, fun _ => rfl⟩
theorem fl_X1_45 : FL RX1 45 1 0 2 true := ⟨RX1, TX1, 10, cl1, by decide, gt1 191 rfl rfl, rfl, rfl, fun _ => rfl⟩
theorem fl_X1_49 : FL RX1 49 1 1 2 true := ⟨RX1, TX1, 10, cl1, by decide, gt1 192 rfl rfl, rfl, rfl, fun _ => rfl⟩
theorem fl_X1_13 : FL RX1 13 1 2 2 true := ⟨RX1, TX1, 10, cl1, by decide, gt1 193 rfl rfl, rfl, rfl, fun _ => rfl⟩
theorem fl_X11_306 : FLr RX11 306 1 2 2 true := ⟨RX1, TX1, 10, cl1, by decide, gt1 194 rfl rfl, rfl, rfl⟩
theorem fl_X1_19 : FL RX1 19 1 3 2 true := ⟨RX1, TX1, 10, cl1, by decide, gt1 195 rfl rfl, rfl, rfl, fun _ => rfl⟩
theorem fl_X11_309 : FLr RX11 309 1 3 2 true := ⟨RX1, TX1, 10, cl1, by decide, gt1 196 rfl rfl, rfl, rfl⟩
theorem fl_X1_22 : FL RX1 22 1 4 2 true := ⟨RX1, TX1, 10, cl1, by decide, gt1 197 rfl rfl, rfl, rfl, fun _ => rfl⟩
theorem fl_X11_302 : FLr RX11 302 1 4 2 true := ⟨RX1, TX1, 10, cl1, by decide, gt1 198 rfl rfl, rfl, rfl⟩
theorem fl_X1_26 : FL RX1 26 1 5 2 true := ⟨RX1, TX1, 10, cl1, by decide, gt1 199 rfl rfl, rfl, rfl, fun _ => rfl⟩
theorem fl_X11_254 : FLr RX11 254 1 5 2 true := ⟨RX1, TX1, 10, cl1, by decide, gt1 200 rfl rfl, rfl, rfl⟩
theorem fl_X1_30 : FL RX1 30 1 6 2 true := ⟨RX1, TX1, 10, cl1, by decide, gt1 201 rfl rfl, rfl, rfl, fun _ => rfl⟩
theorem fl_X1_33 : FL RX1 33 1 7 2 true := ⟨RX1, TX1, 10, cl1, by decide, gt1 202 rfl rfl, rfl, rfl, fun _ => rfl⟩
theorem fl_X1_38 : FL RX1 38 1 8 2 true := ⟨RX1, TX1, 10, cl1, by decide, gt1 203 rfl rfl, rfl, rfl, fun _ => rfl⟩
theorem fl_X11_410 : FLr RX11 410 1 8 2 true := ⟨RX1, TX1, 10, cl1, by decide, gt1 204 rfl rfl, rfl, rfl⟩
theorem fl_X1_42 : FL RX1 42 1 9 2 true := ⟨RX1, TX1, 10, cl1, by decide, gt1 205 rfl rfl, rfl, rfl, fun _ => rfl⟩
theorem fl_X11_439 : FLr RX11 439 1 9 2 true := ⟨RX1, TX1, 10, cl1, by decide, gt1 206 rfl rfl, rfl, rfl⟩
theorem fl_X7_24 : FL RX7 24 7 0 2 true := ⟨RX7, TX7, 8, cl7, by decide, gt1 234 rfl rfl, rfl, rfl, fun _ => rfl⟩
theorem fl_X7_28 : FL RX7 28 7 1 2 true := ⟨RX7, TX7, 8, cl7, by decide, gt1 235 rfl rfl, rfl, rfl, fun _ => rfl⟩
theorem fl_X7_11 : FL RX7 11 7 2 2 true := ⟨RX7, TX7, 8, cl7, by decide, gt1 236 rfl rfl, rfl, rfl, fun _ => rfl⟩
theorem fl_X7_15 : FL RX7 15 7 3 2 true := ⟨RX7, TX7, 8, cl7, by decide, gt1 237 rfl rfl, rfl, rfl, fun _ => rfl⟩
theorem fl_X7_18 : FL RX7 18 7 4 2 true := ⟨RX7, TX7, 8, cl7, by decide, gt1 238 rfl rfl, rfl, rfl, fun _ => rfl⟩
theorem fl_X7_21 : FL RX7 21 7 5 2 true := ⟨RX7, TX7, 8, cl7, by decide, gt1 239 rfl rfl, rfl, rfl, fun _ => rfl⟩
theorem fl_X7_66 : FL RX7 66 7 6 0 false := ⟨RX7, TX7, 8, cl7, by decide, gt2 0 rfl rfl, rfl, rfl, fun _ => rfl⟩
theorem fl_X7_38 : FL RX7 38 7 7 0 false := ⟨RX7, TX7, 8, cl7, by decide, gt2 1 rfl rfl, rfl, rfl, fun _ => rfl⟩
theorem fl_X3_18 : FL RX3 18 3 0 2 true := ⟨RX3, TX3, 10, cl3, by decide, gt2 25 rfl rfl, rfl, rfl, fun _ => rfl⟩
theorem fl_X3_22 : FL RX3 22 3 1 2 true := ⟨RX3, TX3, 10, cl3, by decide, gt2 26 rfl rfl, rfl, rfl, fun _ => rfl⟩
theorem fl_X3_26 : FL RX3 26 3 2 2 true := ⟨RX3, TX3, 10, cl3, by decide, gt2 27 rfl rfl, rfl, rfl, fun _ => rfl⟩
theorem fl_X3_30 : FL RX3 30 3 3 2 true := ⟨RX3, TX3, 10, cl3, by decide, gt2 28 rfl rfl, rfl, rfl, fun _ => rfl⟩
theorem fl_X3_9 : FL RX3 9 3 4 2 true := ⟨RX3, TX3, 10, cl3, by decide, gt2 29 rfl rfl, rfl, rfl, fun _ => rfl⟩
theorem fl_X11_350 : FLr RX11 350 3 4 2 true := ⟨RX3, TX3, 10, cl3, by decide, gt2 30 rfl rfl, rfl, rfl⟩
theorem fl_X3_15 : FL RX3 15 3 5 2 true := ⟨RX3, TX3, 10, cl3, by decide, gt2 31 rfl rfl, rfl, rfl, fun _ => rfl⟩
theorem fl_X3_106 : FL RX3 106 3 6 0 false := ⟨RX3, TX3, 10, cl3, by decide, gt2 32 rfl rfl, rfl, rfl, fun _ => rfl⟩
theorem fl_X11_347 : FL RX11 347 3 6 0 false := ⟨RX3, TX3, 10, cl3, by decide, gt2 33 rfl rfl, rfl, rfl, fun h => by cases h⟩
theorem fl_X3_109 : FL RX3 109 3 7 0 false := ⟨RX3, TX3, 10, cl3, by decide, gt2 34 rfl rfl, rfl, rfl, fun _ => rfl⟩
theorem fl_X11_356 : FL RX11 356 3 7 0 false := ⟨RX3, TX3, 10, cl3, by decide, gt2 35 rfl rfl, rfl, rfl, fun h => by cases h⟩
theorem fl_X3_103 : FL RX3 103 3 8 0 false := ⟨RX3, TX3, 10, cl3, by decide, gt2 36 rfl rfl, rfl, rfl, fun _ => rfl⟩
theorem fl_X11_335 : FL RX11 335 3 8 0 false := ⟨RX3, TX3, 10, cl3, by decide, gt2 37 rfl rfl, rfl, rfl, fun h => by cases h⟩
theorem fl_X3_97 : FL RX3 97 3 9 0 false := ⟨RX3, TX3, 10, cl3, by decide, gt2 38 rfl rfl, rfl, rfl, fun _ => rfl⟩
theorem fl_X11_338 : FL RX11 338 3 9 0 false := ⟨RX3, TX3, 10, cl3, by decide, gt2 39 rfl rfl, rfl, rfl, fun h => by cases h⟩
theorem fl_X4_13 : FL RX4 13 4 0 2 true := ⟨RX4, TX4, 5, cl4, by decide, gt2 70 rfl rfl, rfl, rfl, fun _ => rfl⟩
theorem fl_X4_17 : FL RX4 17 4 1 2 true := ⟨RX4, TX4, 5, cl4, by decide, gt2 71 rfl rfl, rfl, rfl, fun _ => rfl⟩
theorem fl_X4_20 : FL RX4 20 4 2 2 true := ⟨RX4, TX4, 5, cl4, by decide, gt2 72 rfl rfl, rfl, rfl, fun _ => rfl⟩
theorem fl_X4_24 : FL RX4 24 4 3 2 true := ⟨RX4, TX4, 5, cl4, by decide, gt2 73 rfl rfl, rfl, rfl, fun _ => rfl⟩
theorem fl_X4_28 : FL RX4 28 4 4 0 false := ⟨RX4, TX4, 5, cl4, by decide, gt2 74 rfl rfl, rfl, rfl, fun _ => rfl⟩
theorem fl_X11_293 : FL RX11 293 4 4 0 false := ⟨RX4, TX4, 5, cl4, by decide, gt2 75 rfl rfl, rfl, rfl, fun h => by cases h⟩
theorem fl_X8_19 : FL RX8 19 8 0 2 true := ⟨RX8, TX8, 5, cl8, by decide, gt2 93 rfl rfl, rfl, rfl, fun _ => rfl⟩
theorem fl_X8_9 : FL RX8 9 8 1 2 true := ⟨RX8, TX8, 5, cl8, by decide, gt2 94 rfl rfl, rfl, rfl, fun _ => rfl⟩
theorem fl_X8_13 : FL RX8 13 8 2 2 true := ⟨RX8, TX8, 5, cl8, by decide, gt2 95 rfl rfl, rfl, rfl, fun _ => rfl⟩
theorem fl_X8_16 : FL RX8 16 8 3 2 true := ⟨RX8, TX8, 5, cl8, by decide, gt2 96 rfl rfl, rfl, rfl, fun _ => rfl⟩
theorem fl_X8_23 : FL RX8 23 8 4 0 false := ⟨RX8, TX8, 5, cl8, by decide, gt2 97 rfl rfl, rfl, rfl, fun _ => rfl⟩
theorem fl_X11_421 : FL RX11 421 8 4 0 false := ⟨RX8, TX8, 5, cl8, by decide, gt2 98 rfl rfl, rfl, rfl, fun h => by cases h⟩
theorem fl_X0_11 : FL RX0 11 0 0 2 true := ⟨RX0, TX0, 5, cl0, by decide, gt2 116 rfl rfl, rfl, rfl, fun _ => rfl⟩
theorem fl_X11_395 : FLr RX11 395 0 0 2 true := ⟨RX0, TX0, 5, cl0, by decide, gt2 117 rfl rfl, rfl, rfl⟩
theorem fl_X0_24 : FL RX0 24 0 1 0 false := ⟨RX0, TX0, 5, cl0, by decide, gt2 118 rfl rfl, rfl, rfl, fun _ => rfl⟩
theorem fl_X11_394 : FL RX11 394 0 1 0 false := ⟨RX0, TX0, 5, cl0, by decide, gt2 119 rfl rfl, rfl, rfl, fun h => by cases h⟩
theorem fl_X0_15 : FL RX0 15 0 2 2 true := ⟨RX0, TX0, 5, cl0, by decide, gt2 120 rfl rfl, rfl, rfl, fun _ => rfl⟩
theorem fl_X0_18 : FL RX0 18 0 3 2 true := ⟨RX0, TX0, 5, cl0, by decide, gt2 121 rfl rfl, rfl, rfl, fun _ => rfl⟩
theorem fl_X0_21 : FL RX0 21 0 4 2 true := ⟨RX0, TX0, 5, cl0, by decide, gt2 122 rfl rfl, rfl, rfl, fun _ => rfl⟩
theorem fl_X11_10 : FL RX11 10 11 0 2 true := ⟨RX11, TX11, 13, cl11, by decide, gt2 134 rfl rfl, rfl, rfl, fun _ => rfl⟩
theorem fl_X11_19 : FL RX11 19 11 1 2 true := ⟨RX11, TX11, 13, cl11, by decide, gt2 135 rfl rfl, rfl, rfl, fun _ => rfl⟩
theorem fl_X11_26 : FL RX11 26 11 2 2 true := ⟨RX11, TX11, 13, cl11, by decide, gt2 136 rfl rfl, rfl, rfl, fun _ => rfl⟩
theorem fl_X11_33 : FL RX11 33 11 3 2 true := ⟨RX11, TX11, 13, cl11, by decide, gt2 137 rfl rfl, rfl, rfl, fun _ => rfl⟩
theorem fl_X11_37 : FL RX11 37 11 4 2 true := ⟨RX11, TX11, 13, cl11, by decide, gt2 138 rfl rfl, rfl, rfl, fun _ => rfl⟩
theorem fl_X11_45 : FL RX11 45 11 5 2 true := ⟨RX11, TX11, 13, cl11, by decide, gt2 139 rfl rfl, rfl, rfl, fun _ => rfl⟩
theorem fl_X11_49 : FL RX11 49 11 6 2 true := ⟨RX11, TX11, 13, cl11, by decide, gt2 140 rfl rfl, rfl, rfl, fun _ => rfl⟩
theorem fl_X11_55 : FL RX11 55 11 7 2 true := ⟨RX11, TX11, 13, cl11, by decide, gt2 141 rfl rfl, rfl, rfl, fun _ => rfl⟩
theorem fl_X11_64 : FL RX11 64 11 8 2 true := ⟨RX11, TX11, 13, cl11, by decide, gt2 142 rfl rfl, rfl, rfl, fun _ => rfl⟩
theorem fl_X11_71 : FL RX11 71 11 9 2 true := ⟨RX11, TX11, 13, cl11, by decide, gt2 143 rfl rfl, rfl, rfl, fun _ => rfl⟩
theorem fl_X11_80 : FL RX11 80 11 10 2 true := ⟨RX11, TX11, 13, cl11, by decide, gt2 144 rfl rfl, rfl, rfl, fun _ => rfl⟩
theorem fl_X11_87 : FL RX11 87 11 11 2 true := ⟨RX11, TX11, 13, cl11, by decide, gt2 145 rfl rfl, rfl, rfl, fun _ => rfl⟩
theorem fl_X11_91 : FL RX11 91 11 12 2 true := ⟨RX11, TX11, 13, cl11, by decide, gt2 146 rfl rfl, rfl, rfl, fun _ => rfl⟩
theorem fl_X12_133 : FL RX12 133 12 0 0 false := ⟨RX12, TX12, 59, cl12, by decide, gt6 187 rfl rfl, rfl, rfl, fun _ => rfl⟩
theorem fl_X12_140 : FL RX12 140 12 1 0 false := ⟨RX12, TX12, 59, cl12, by decide, gt6 188 rfl rfl, rfl, rfl, fun _ => rfl⟩
theorem fl_X12_9 : FL RX12 9 12 2 2 true := ⟨RX12, TX12, 59, cl12, by decide, gt6 189 rfl rfl, rfl, rfl, fun _ => rfl⟩
theorem fl_X12_143 : FL RX12 143 12 3 0 false := ⟨RX12, TX12, 59, cl12, by decide, gt6 190 rfl rfl, rfl, rfl, fun _ => rfl⟩
theorem fl_X12_150 : FL RX12 150 12 4 0 false := ⟨RX12, TX12, 59, cl12, by decide, gt6 191 rfl rfl, rfl, rfl, fun _ => rfl⟩
theorem fl_X12_244 : FL RX12 244 12 5 0 false := ⟨RX12, TX12, 59, cl12, by decide, gt6 192 rfl rfl, rfl, rfl, fun _ => rfl⟩
theorem fl_X12_13 : FL RX12 13 12 6 0 false := ⟨RX12, TX12, 59, cl12, by decide, gt6 193 rfl rfl, rfl, rfl, fun _ => rfl⟩
theorem fl_X12_17 : FL RX12 17 12 7 2 true := ⟨RX12, TX12, 59, cl12, by decide, gt6 194 rfl rfl, rfl, rfl, fun _ => rfl⟩
theorem fl_X12_21 : FL RX12 21 12 8 2 true := ⟨RX12, TX12, 59, cl12, by decide, gt6 195 rfl rfl, rfl, rfl, fun _ => rfl⟩
theorem fl_X12_25 : FL RX12 25 12 9 2 true := ⟨RX12, TX12, 59, cl12, by decide, gt6 196 rfl rfl, rfl, rfl, fun _ => rfl⟩
theorem fl_X12_28 : FL RX12 28 12 10 2 true := ⟨RX12, TX12, 59, cl12, by decide, gt6 197 rfl rfl, rfl, rfl, fun _ => rfl⟩
theorem fl_X12_31 : FL RX12 31 12 11 2 true := ⟨RX12, TX12, 59, cl12, by decide, gt6 198 rfl rfl, rfl, rfl, fun _ => rfl⟩
theorem fl_X12_34 : FL RX12 34 12 12 2 true := ⟨RX12, TX12, 59, cl12, by decide, gt6 199 rfl rfl, rfl, rfl, fun _ => rfl⟩
theorem fl_X12_37 : FL RX12 37 12 13 2 true := ⟨RX12, TX12, 59, cl12, by decide, gt6 200 rfl rfl, rfl, rfl, fun _ => rfl⟩
theorem fl_X12_40 : FL RX12 40 12 14 2 true := ⟨RX12, TX12, 59, cl12, by decide, gt6 201 rfl rfl, rfl, rfl, fun _ => rfl⟩
theorem fl_X12_43 : FL RX12 43 12 15 2 true := ⟨RX12, TX12, 59, cl12, by decide, gt6 202 rfl rfl, rfl, rfl, fun _ => rfl⟩
theorem fl_X12_46 : FL RX12 46 12 16 2 true := ⟨RX12, TX12, 59, cl12, by decide, gt6 203 rfl rfl, rfl, rfl, fun _ => rfl⟩
theorem fl_X12_49 : FL RX12 49 12 17 2 true := ⟨RX12, TX12, 59, cl12, by decide, gt6 204 rfl rfl, rfl, rfl, fun _ => rfl⟩
theorem fl_X12_153 : FL RX12 153 12 18 0 false := ⟨RX12, TX12, 59, cl12, by decide, gt6 205 rfl rfl, rfl, rfl, fun _ => rfl⟩
theorem fl_X12_156 : FL RX12 156 12 19 0 false := ⟨RX12, TX12, 59, cl12, by decide, gt6 206 rfl rfl, rfl, rfl, fun _ => rfl⟩
theorem fl_X12_168 : FL RX12 168 12 20 0 false := ⟨RX12, TX12, 59, cl12, by decide, gt6 207 rfl rfl, rfl, rfl, fun _ => rfl⟩
theorem fl_X12_159 : FL RX12 159 12 21 0 false := ⟨RX12, TX12, 59, cl12, by decide, gt6 208 rfl rfl, rfl, rfl, fun _ => rfl⟩
theorem fl_X12_52 : FL RX12 52 12 22 2 true := ⟨RX12, TX12, 59, cl12, by decide, gt6 209 rfl rfl, rfl, rfl, fun _ => rfl⟩
theorem fl_X12_55 : FL RX12 55 12 23 2 true := ⟨RX12, TX12, 59, cl12, by decide, gt6 210 rfl rfl, rfl, rfl, fun _ => rfl⟩
theorem fl_X12_199 : FL RX12 199 12 24 0 false := ⟨RX12, TX12, 59, cl12, by decide, gt6 211 rfl rfl, rfl, rfl, fun _ => rfl⟩
theorem fl_X12_206 : FL RX12 206 12 25 0 false := ⟨RX12, TX12, 59, cl12, by decide, gt6 212 rfl rfl, rfl, rfl, fun _ => rfl⟩
theorem fl_X12_58 : FL RX12 58 12 26 2 true := ⟨RX12, TX12, 59, cl12, by decide, gt6 213 rfl rfl, rfl, rfl, fun _ => rfl⟩
theorem fl_X12_61 : FL RX12 61 12 27 2 true := ⟨RX12, TX12, 59, cl12, by decide, gt6 214 rfl rfl, rfl, rfl, fun _ => rfl⟩
theorem fl_X12_64 : FL RX12 64 12 28 2 true := ⟨RX12, TX12, 59, cl12, by decide, gt6 215 rfl rfl, rfl, rfl, fun _ => rfl⟩
theorem fl_X12_271 : FL RX12 271 12 29 0 false := ⟨RX12, TX12, 59, cl12, by decide, gt6 216 rfl rfl, rfl, rfl, fun _ => rfl⟩
theorem fl_X12_250 : FL RX12 250 12 30 0 false := ⟨RX12, TX12, 59, cl12, by decide, gt6 217 rfl rfl, rfl, rfl, fun _ => rfl⟩
theorem fl_X12_67 : FL RX12 67 12 31 2 true := ⟨RX12, TX12, 59, cl12, by decide, gt6 218 rfl rfl, rfl, rfl, fun _ => rfl⟩
theorem fl_X12_70 : FL RX12 70 12 32 2 true := ⟨RX12, TX12, 59, cl12, by decide, gt6 219 rfl rfl, rfl, rfl, fun _ => rfl⟩
theorem fl_X12_241 : FL RX12 241 12 33 0 false := ⟨RX12, TX12, 59, cl12, by decide, gt6 220 rfl rfl, rfl, rfl, fun _ => rfl⟩
theorem fl_X12_73 : FL RX12 73 12 34 2 true := ⟨RX12, TX12, 59, cl12, by decide, gt6 221 rfl rfl, rfl, rfl, fun _ => rfl⟩
theorem fl_X12_76 : FL RX12 76 12 35 2 true := ⟨RX12, TX12, 59, cl12, by decide, gt6 222 rfl rfl, rfl, rfl, fun _ => rfl⟩
theorem fl_X12_79 : FL RX12 79 12 36 2 true := ⟨RX12, TX12, 59, cl12, by decide, gt6 223 rfl rfl, rfl, rfl, fun _ => rfl⟩
theorem fl_X12_82 : FL RX12 82 12 37 2 true := ⟨RX12, TX12, 59, cl12, by decide, gt6 224 rfl rfl, rfl, rfl, fun _ => rfl⟩
theorem fl_X12_85 : FL RX12 85 12 38 2 true := ⟨RX12, TX12, 59, cl12, by decide, gt6 225 rfl rfl, rfl, rfl, fun _ => rfl⟩
theorem fl_X12_403 : FL RX12 403 12 39 0 false := ⟨RX12, TX12, 59, cl12, by decide, gt6 226 rfl rfl, rfl, rfl, fun _ => rfl⟩
theorem fl_X12_447 : FL RX12 447 12 40 0 false := ⟨RX12, TX12, 59, cl12, by decide, gt6 227 rfl rfl, rfl, rfl, fun _ => rfl⟩
theorem fl_X12_450 : FL RX12 450 12 41 0 false := ⟨RX12, TX12, 59, cl12, by decide, gt6 228 rfl rfl, rfl, rfl, fun _ => rfl⟩
theorem fl_X12_88 : FL RX12 88 12 42 2 true := ⟨RX12, TX12, 59, cl12, by decide, gt6 229 rfl rfl, rfl, rfl, fun _ => rfl⟩
theorem fl_X12_91 : FL RX12 91 12 43 2 true := ⟨RX12, TX12, 59, cl12, by decide, gt6 230 rfl rfl, rfl, rfl, fun _ => rfl⟩
theorem fl_X12_94 : FL RX12 94 12 44 2 true := ⟨RX12, TX12, 59, cl12, by decide, gt6 231 rfl rfl, rfl, rfl, fun _ => rfl⟩
theorem fl_X12_97 : FL RX12 97 12 45 2 true := ⟨RX12, TX12, 59, cl12, by decide, gt6 232 rfl rfl, rfl, rfl, fun _ => rfl⟩
theorem fl_X12_100 : FL RX12 100 12 46 2 true := ⟨RX12, TX12, 59, cl12, by decide, gt6 233 rfl rfl, rfl, rfl, fun _ => rfl⟩
theorem fl_X12_103 : FL RX12 103 12 47 2 true := ⟨RX12, TX12, 59, cl12, by decide, gt6 234 rfl rfl, rfl, rfl, fun _ => rfl⟩
theorem fl_X12_464 : FL RX12 464 12 48 0 false := ⟨RX12, TX12, 59, cl12, by decide, gt6 235 rfl rfl, rfl, rfl, fun _ => rfl⟩
theorem fl_X12_106 : FL RX12 106 12 49 2 true := ⟨RX12, TX12, 59, cl12, by decide, gt6 236 rfl rfl, rfl, rfl, fun _ => rfl⟩
theorem fl_X12_109 : FL RX12 109 12 50 2 true := ⟨RX12, TX12, 59, cl12, by decide, gt6 237 rfl rfl, rfl, rfl, fun _ => rfl⟩
theorem fl_X12_494 : FL RX12 494 12 51 0 false := ⟨RX12, TX12, 59, cl12, by decide, gt6 238 rfl rfl, rfl, rfl, fun _ => rfl⟩
theorem fl_X12_112 : FL RX12 112 12 52 2 true := ⟨RX12, TX12, 59, cl12, by decide, gt6 239 rfl rfl, rfl, rfl, fun _ => rfl⟩
theorem fl_X12_115 : FL RX12 115 12 53 2 true := ⟨RX12, TX12, 59, cl12, by decide, gt7 0 rfl rfl, rfl, rfl, fun _ => rfl⟩
theorem fl_X12_118 : FL RX12 118 12 54 2 true := ⟨RX12, TX12, 59, cl12, by decide, gt7 1 rfl rfl, rfl, rfl, fun _ => rfl⟩
theorem fl_X12_121 : FL RX12 121 12 55 2 true := ⟨RX12, TX12, 59, cl12, by decide, gt7 2 rfl rfl, rfl, rfl, fun _ => rfl⟩
theorem fl_X12_124 : FL RX12 124 12 56 2 true := ⟨RX12, TX12, 59, cl12, by decide, gt7 3 rfl rfl, rfl, rfl, fun _ => rfl⟩
theorem fl_X12_127 : FL RX12 127 12 57 2 true := ⟨RX12, TX12, 59, cl12, by decide, gt7 4 rfl rfl, rfl, rfl, fun _ => rfl⟩
theorem fl_X12_130 : FL RX12 130 12 58 2 true := ⟨RX12, TX12, 59, cl12, by decide, gt7 5 rfl rfl, rfl, rfl, fun _ => rfl⟩
theorem ml_L_25 : Cond.methodLink RL 25 yX11_init ∈ gtbl := gt1 29 rfl rfl
theorem ml_X11_1 : Cond.methodLink RX11 1 objectInit ∈ gtbl := gt1 32 rfl rfl
theorem ml_X10_3 : Cond.methodLink RX10 3 objectInit ∈ gtbl := gt1 40 rfl rfl
theorem ml_X6_1 : Cond.methodLink RX6 1 objectInit ∈ gtbl := gt1 64 rfl rfl
theorem ml_X11_25 : Cond.methodLink RX11 25 yX9_init ∈ gtbl := gt1 77 rfl rfl
theorem ml_X9_3 : Cond.methodLink RX9 3 objectInit ∈ gtbl := gt1 80 rfl rfl
theorem ml_X9_41 : Cond.methodLink RX9 41 yJ7_fill_53178 ∈ gtbl := gt1 81 rfl rfl
theorem ml_X5_1 : Cond.methodLink RX5 1 objectInit ∈ gtbl := gt1 158 rfl rfl
theorem ml_X11_42 : Cond.methodLink RX11 42 yX1_init ∈ gtbl := gt1 173 rfl rfl
theorem ml_X1_3 : Cond.methodLink RX1 3 objectInit ∈ gtbl := gt1 176 rfl rfl
theorem ml_X2_1 : Cond.methodLink RX2 1 objectInit ∈ gtbl := gt1 183 rfl rfl
theorem ml_X11_54 : Cond.methodLink RX11 54 yX7_init ∈ gtbl := gt1 230 rfl rfl
theorem ml_X7_3 : Cond.methodLink RX7 3 objectInit ∈ gtbl := gt1 233 rfl rfl
theorem ml_X11_61 : Cond.methodLink RX11 61 yX3_init ∈ gtbl := gt2 21 rfl rfl
theorem ml_X3_3 : Cond.methodLink RX3 3 objectInit ∈ gtbl := gt2 24 rfl rfl
theorem ml_X11_70 : Cond.methodLink RX11 70 yX4_init ∈ gtbl := gt2 63 rfl rfl
theorem ml_X4_3 : Cond.methodLink RX4 3 objectInit ∈ gtbl := gt2 66 rfl rfl
theorem ml_X11_77 : Cond.methodLink RX11 77 yX8_init ∈ gtbl := gt2 89 rfl rfl
theorem ml_X8_1 : Cond.methodLink RX8 1 objectInit ∈ gtbl := gt2 92 rfl rfl
theorem ml_X0_3 : Cond.methodLink RX0 3 objectInit ∈ gtbl := gt2 115 rfl rfl
theorem ml_L_29 : Cond.methodLink RL 29 yX11_sign ∈ gtbl := gt2 174 rfl rfl
theorem ml_X11_95 : Cond.methodLink RX11 95 yX10_put ∈ gtbl := gt2 178 rfl rfl
theorem ml_L_34 : Cond.methodLink RL 34 yX11_end ∈ gtbl := gt2 182 rfl rfl
theorem ml_X11_103 : Cond.methodLink RX11 103 yX10_cut ∈ gtbl := gt2 186 rfl rfl
theorem ml_L_39 : Cond.methodLink RL 39 yX11_station ∈ gtbl := gt2 190 rfl rfl
theorem ml_X11_106 : Cond.methodLink RX11 106 yX9_read ∈ gtbl := gt2 194 rfl rfl
theorem ml_X9_73 : Cond.methodLink RX9 73 yX10_begin ∈ gtbl := gt2 198 rfl rfl
theorem ml_X10_22 : Cond.methodLink RX10 22 yJ9_min_7cf53 ∈ gtbl := gt2 202 rfl rfl
theorem ml_X9_79 : Cond.methodLink RX9 79 yX10_isEmpty ∈ gtbl := gt2 205 rfl rfl
theorem ml_X9_89 : Cond.methodLink RX9 89 yX9_readLine ∈ gtbl := gt2 209 rfl rfl
theorem ml_X9_103 : Cond.methodLink RX9 103 yX10_take ∈ gtbl := gt2 213 rfl rfl
theorem ml_X10_34 : Cond.methodLink RX10 34 yX10_peek ∈ gtbl := gt2 217 rfl rfl
theorem ml_X10_38 : Cond.methodLink RX10 38 yX10_skip ∈ gtbl := gt2 221 rfl rfl
theorem ml_X9_106 : Cond.methodLink RX9 106 yX9_readErrand ∈ gtbl := gt2 225 rfl rfl
theorem ml_X9_110 : Cond.methodLink RX9 110 yX10_digit ∈ gtbl := gt2 229 rfl rfl
theorem ml_X9_113 : Cond.methodLink RX9 113 yX10_number ∈ gtbl := gt2 233 rfl rfl
theorem ml_X10_41 : Cond.methodLink RX10 41 yX10_digit ∈ gtbl := gt2 237 rfl rfl
theorem ml_X9_116 : Cond.methodLink RX9 116 yX10_stepBack ∈ gtbl := gt2 238 rfl rfl
theorem ml_X9_93 : Cond.methodLink RX9 93 yX10_refusal ∈ gtbl := gt3 2 rfl rfl
theorem ml_X9_97 : Cond.methodLink RX9 97 yX10_atEnd ∈ gtbl := gt3 6 rfl rfl
theorem ml_X9_100 : Cond.methodLink RX9 100 yX10_hasMore ∈ gtbl := gt3 10 rfl rfl
theorem ml_X11_110 : Cond.methodLink RX11 110 yX4_drop ∈ gtbl := gt3 14 rfl rfl
theorem ml_L_44 : Cond.methodLink RL 44 yX11_wishes ∈ gtbl := gt3 18 rfl rfl
theorem ml_X11_113 : Cond.methodLink RX11 113 yX10_begin ∈ gtbl := gt3 22 rfl rfl
theorem ml_X11_117 : Cond.methodLink RX11 117 yX9_hasPerson ∈ gtbl := gt3 23 rfl rfl
theorem ml_X11_123 : Cond.methodLink RX11 123 yX10_digit ∈ gtbl := gt3 27 rfl rfl
theorem ml_X11_127 : Cond.methodLink RX11 127 yX10_refusal ∈ gtbl := gt3 28 rfl rfl
theorem ml_X11_131 : Cond.methodLink RX11 131 yX10_atEnd ∈ gtbl := gt3 29 rfl rfl
theorem ml_X11_135 : Cond.methodLink RX11 135 yX10_rewind ∈ gtbl := gt3 30 rfl rfl
theorem ml_X11_138 : Cond.methodLink RX11 138 yX9_setWish ∈ gtbl := gt3 34 rfl rfl
theorem ml_X9_53 : Cond.methodLink RX9 53 yX9_hasPerson ∈ gtbl := gt3 38 rfl rfl
theorem ml_X9_57 : Cond.methodLink RX9 57 yX9_hasErrand ∈ gtbl := gt3 39 rfl rfl
theorem ml_L_48 : Cond.methodLink RL 48 yX11_rule ∈ gtbl := gt3 43 rfl rfl
theorem ml_X11_142 : Cond.methodLink RX11 142 yX7_read ∈ gtbl := gt3 47 rfl rfl
theorem ml_X7_32 : Cond.methodLink RX7 32 yX10_begin ∈ gtbl := gt3 51 rfl rfl
theorem ml_X7_42 : Cond.methodLink RX7 42 yX10_isEmpty ∈ gtbl := gt3 52 rfl rfl
theorem ml_X7_46 : Cond.methodLink RX7 46 yX7_readComparison ∈ gtbl := gt3 53 rfl rfl
theorem ml_X7_69 : Cond.methodLink RX7 69 yX7_readSum ∈ gtbl := gt3 57 rfl rfl
theorem ml_X7_85 : Cond.methodLink RX7 85 yX7_readProduct ∈ gtbl := gt3 61 rfl rfl
theorem ml_X7_88 : Cond.methodLink RX7 88 yX7_readThing ∈ gtbl := gt3 65 rfl rfl
theorem ml_X7_91 : Cond.methodLink RX7 91 yX10_take ∈ gtbl := gt3 69 rfl rfl
theorem ml_X7_95 : Cond.methodLink RX7 95 yX10_number ∈ gtbl := gt3 70 rfl rfl
theorem ml_X7_82 : Cond.methodLink RX7 82 yX7_emit ∈ gtbl := gt3 71 rfl rfl
theorem ml_X7_50 : Cond.methodLink RX7 50 yX10_atEnd ∈ gtbl := gt3 75 rfl rfl
theorem ml_X7_72 : Cond.methodLink RX7 72 yX10_peek ∈ gtbl := gt3 77 rfl rfl
theorem ml_X7_100 : Cond.methodLink RX7 100 yJ0_indexOf_0f7a4 ∈ gtbl := gt3 78 rfl rfl
theorem ml_J0_633 : Cond.methodLink RJ0 633 yJ0_indexOf_7cf53 ∈ gtbl := gt3 82 rfl rfl
theorem ml_J0_492 : Cond.methodLink RJ0 492 yJ0_isLatin1_aae02 ∈ gtbl := gt3 86 rfl rfl
theorem ml_J0_505 : Cond.methodLink RJ0 505 yJ0_length_8abf5 ∈ gtbl := gt3 92 rfl rfl
theorem ml_J0_335 : Cond.methodLink RJ0 335 yJ0_coder_7d493 ∈ gtbl := gt3 96 rfl rfl
theorem ml_J0_637 : Cond.methodLink RJ0 637 yJ1_indexOf_4cfef ∈ gtbl := gt3 100 rfl rfl
theorem ml_J1_88 : Cond.methodLink RJ1 88 yJ1_canEncode_9a6ad ∈ gtbl := gt3 103 rfl rfl
theorem ml_J1_92 : Cond.methodLink RJ1 92 yJ9_max_7cf53 ∈ gtbl := gt3 106 rfl rfl
theorem ml_J1_38 : Cond.methodLink RJ1 38 yJ9_min_7cf53 ∈ gtbl := gt3 109 rfl rfl
theorem ml_J1_95 : Cond.methodLink RJ1 95 yJ1_indexOfChar_4cfef ∈ gtbl := gt3 110 rfl rfl
theorem ml_J0_640 : Cond.methodLink RJ0 640 yJ2_indexOf_4cfef ∈ gtbl := gt3 113 rfl rfl
theorem ml_J2_224 : Cond.methodLink RJ2 224 yJ9_max_7cf53 ∈ gtbl := gt3 116 rfl rfl
theorem ml_J2_183 : Cond.methodLink RJ2 183 yJ9_min_7cf53 ∈ gtbl := gt3 117 rfl rfl
theorem ml_J2_228 : Cond.methodLink RJ2 228 yJ2_indexOfChar_4cfef ∈ gtbl := gt3 119 rfl rfl
theorem ml_J2_96 : Cond.methodLink RJ2 96 yJ2_checkBoundsBeginEnd_d044e ∈ gtbl := gt3 122 rfl rfl
theorem ml_J2_48 : Cond.methodLink RJ2 48 yJ2_length_9d52b ∈ gtbl := gt3 125 rfl rfl
theorem ml_J2_241 : Cond.methodLink RJ2 241 yJ0_checkBoundsBeginEnd_23922 ∈ gtbl := gt3 128 rfl rfl
theorem ml_J0_1062 : Cond.methodLink RJ0 1062 yJ3_checkFromToIndex_8c36e ∈ gtbl := gt3 133 rfl rfl
theorem ml_J2_244 : Cond.methodLink RJ2 244 yJ2_indexOfCharUnsafe_4cfef ∈ gtbl := gt3 136 rfl rfl
theorem ml_J2_71 : Cond.methodLink RJ2 71 yJ2_getChar_3b067 ∈ gtbl := gt3 139 rfl rfl
theorem ml_J2_232 : Cond.methodLink RJ2 232 yJ2_indexOfSupplementary_4cfef ∈ gtbl := gt3 148 rfl rfl
theorem ml_J2_164 : Cond.methodLink RJ2 164 yJ11_isValidCodePoint_9a6ad ∈ gtbl := gt3 151 rfl rfl
theorem ml_J2_157 : Cond.methodLink RJ2 157 yJ11_highSurrogate_5068e ∈ gtbl := gt3 154 rfl rfl
theorem ml_J2_161 : Cond.methodLink RJ2 161 yJ11_lowSurrogate_5068e ∈ gtbl := gt3 158 rfl rfl
theorem ml_X7_75 : Cond.methodLink RX7 75 yX10_skip ∈ gtbl := gt3 162 rfl rfl
theorem ml_X7_78 : Cond.methodLink RX7 78 yX7_operator ∈ gtbl := gt3 163 rfl rfl
theorem ml_X7_53 : Cond.methodLink RX7 53 yX10_hasMore ∈ gtbl := gt3 166 rfl rfl
theorem ml_X7_56 : Cond.methodLink RX7 56 yX10_refusal ∈ gtbl := gt3 167 rfl rfl
theorem ml_X7_60 : Cond.methodLink RX7 60 arraycopyName ∈ gtbl := gt3 168 rfl rfl
theorem ml_L_52 : Cond.methodLink RL 52 yX11_plan ∈ gtbl := gt3 172 rfl rfl
theorem ml_X11_146 : Cond.methodLink RX11 146 yX10_isEmpty ∈ gtbl := gt3 176 rfl rfl
theorem ml_X11_149 : Cond.methodLink RX11 149 yX11_readTrips ∈ gtbl := gt3 177 rfl rfl
theorem ml_X11_473 : Cond.methodLink RX11 473 yX10_peek ∈ gtbl := gt3 181 rfl rfl
theorem ml_X11_476 : Cond.methodLink RX11 476 yX10_skip ∈ gtbl := gt3 182 rfl rfl
theorem ml_X11_184 : Cond.methodLink RX11 184 yX9_hasErrand ∈ gtbl := gt3 183 rfl rfl
theorem ml_X11_276 : Cond.methodLink RX11 276 yX10_take ∈ gtbl := gt3 184 rfl rfl
theorem ml_X11_368 : Cond.methodLink RX11 368 yX10_number ∈ gtbl := gt3 185 rfl rfl
theorem ml_X11_251 : Cond.methodLink RX11 251 yX5_add ∈ gtbl := gt3 186 rfl rfl
theorem ml_X11_479 : Cond.methodLink RX11 479 yX10_hasMore ∈ gtbl := gt3 190 rfl rfl
theorem ml_X11_152 : Cond.methodLink RX11 152 yX4_push ∈ gtbl := gt3 191 rfl rfl
theorem ml_X4_32 : Cond.methodLink RX4 32 yX4_forgetOldest ∈ gtbl := gt3 195 rfl rfl
theorem ml_X4_35 : Cond.methodLink RX4 35 yX5_copy ∈ gtbl := gt3 199 rfl rfl
theorem ml_X5_27 : Cond.methodLink RX5 27 arraycopyName ∈ gtbl := gt3 203 rfl rfl
theorem ml_X11_156 : Cond.methodLink RX11 156 yX5_copy ∈ gtbl := gt3 204 rfl rfl
theorem ml_L_71 : Cond.methodLink RL 71 yX11_wish ∈ gtbl := gt3 205 rfl rfl
theorem ml_X11_229 : Cond.methodLink RX11 229 yX9_getWish ∈ gtbl := gt3 209 rfl rfl
theorem ml_L_76 : Cond.methodLink RL 76 yX11_train ∈ gtbl := gt3 213 rfl rfl
theorem ml_L_80 : Cond.methodLink RL 80 yX11_sheet ∈ gtbl := gt3 217 rfl rfl
theorem ml_X11_233 : Cond.methodLink RX11 233 yX9_setLasts ∈ gtbl := gt3 221 rfl rfl
theorem ml_X9_64 : Cond.methodLink RX9 64 yJ9_min_7cf53 ∈ gtbl := gt3 225 rfl rfl
theorem ml_X9_70 : Cond.methodLink RX9 70 yJ9_max_7cf53 ∈ gtbl := gt3 226 rfl rfl
theorem ml_L_85 : Cond.methodLink RL 85 yX11_may ∈ gtbl := gt3 227 rfl rfl
theorem ml_X11_237 : Cond.methodLink RX11 237 yX11_canBeAsked ∈ gtbl := gt3 231 rfl rfl
theorem ml_X11_162 : Cond.methodLink RX11 162 yX1_look ∈ gtbl := gt3 235 rfl rfl
theorem ml_X1_53 : Cond.methodLink RX1 53 yX2_clear ∈ gtbl := gt3 239 rfl rfl
theorem ml_X1_63 : Cond.methodLink RX1 63 yX5_who ∈ gtbl := gt4 3 rfl rfl
theorem ml_X1_67 : Cond.methodLink RX1 67 yX5_what ∈ gtbl := gt4 7 rfl rfl
theorem ml_X1_70 : Cond.methodLink RX1 70 yX5_first ∈ gtbl := gt4 11 rfl rfl
theorem ml_X1_73 : Cond.methodLink RX1 73 yX9_length ∈ gtbl := gt4 15 rfl rfl
theorem ml_X1_76 : Cond.methodLink RX1 76 yX2_add ∈ gtbl := gt4 19 rfl rfl
theorem ml_X1_90 : Cond.methodLink RX1 90 yX2_join ∈ gtbl := gt4 23 rfl rfl
theorem ml_X1_94 : Cond.methodLink RX1 94 yX1_lookAtBags ∈ gtbl := gt4 27 rfl rfl
theorem ml_X1_100 : Cond.methodLink RX1 100 yX2_fillTo ∈ gtbl := gt4 31 rfl rfl
theorem ml_X1_104 : Cond.methodLink RX1 104 yX2_without ∈ gtbl := gt4 36 rfl rfl
theorem ml_X1_107 : Cond.methodLink RX1 107 yX2_keepOnly ∈ gtbl := gt4 40 rfl rfl
theorem ml_X11_241 : Cond.methodLink RX11 241 yX1_hindrance ∈ gtbl := gt4 44 rfl rfl
theorem ml_X1_120 : Cond.methodLink RX1 120 yX9_endsInTime ∈ gtbl := gt4 48 rfl rfl
theorem ml_X9_60 : Cond.methodLink RX9 60 yX9_length ∈ gtbl := gt4 52 rfl rfl
theorem ml_X1_124 : Cond.methodLink RX1 124 yX9_isOpen ∈ gtbl := gt4 53 rfl rfl
theorem ml_X1_140 : Cond.methodLink RX1 140 yX2_part ∈ gtbl := gt4 57 rfl rfl
theorem ml_X1_130 : Cond.methodLink RX1 130 yX1_thingIsOut ∈ gtbl := gt4 61 rfl rfl
theorem ml_X1_149 : Cond.methodLink RX1 149 yX1_back ∈ gtbl := gt4 65 rfl rfl
theorem ml_X1_155 : Cond.methodLink RX1 155 yX5_goTogether ∈ gtbl := gt4 69 rfl rfl
theorem ml_X5_23 : Cond.methodLink RX5 23 yX5_has ∈ gtbl := gt4 73 rfl rfl
theorem ml_X1_136 : Cond.methodLink RX1 136 yX1_hasCompany ∈ gtbl := gt4 77 rfl rfl
theorem ml_X1_144 : Cond.methodLink RX1 144 yX1_wouldBeMissed ∈ gtbl := gt4 81 rfl rfl
theorem ml_L_89 : Cond.methodLink RL 89 yX11_go ∈ gtbl := gt4 86 rfl rfl
theorem ml_X11_245 : Cond.methodLink RX11 245 yX11_putIn ∈ gtbl := gt4 90 rfl rfl
theorem ml_X11_248 : Cond.methodLink RX11 248 yX11_remember ∈ gtbl := gt4 94 rfl rfl
theorem ml_L_93 : Cond.methodLink RL 93 yX11_pair ∈ gtbl := gt4 98 rfl rfl
theorem ml_X11_226 : Cond.methodLink RX11 226 yX1_brokenBy ∈ gtbl := gt4 102 rfl rfl
theorem ml_X1_127 : Cond.methodLink RX1 127 yX1_isAwayByAnother ∈ gtbl := gt4 106 rfl rfl
theorem ml_X11_258 : Cond.methodLink RX11 258 yX2_hasMoreThan ∈ gtbl := gt4 110 rfl rfl
theorem ml_L_97 : Cond.methodLink RL 97 yX11_strike ∈ gtbl := gt4 114 rfl rfl
theorem ml_X11_264 : Cond.methodLink RX11 264 yX11_takeOut ∈ gtbl := gt4 118 rfl rfl
theorem ml_X11_208 : Cond.methodLink RX11 208 yX5_has ∈ gtbl := gt4 122 rfl rfl
theorem ml_X11_467 : Cond.methodLink RX11 467 yX5_remove ∈ gtbl := gt4 123 rfl rfl
theorem ml_L_101 : Cond.methodLink RL 101 yX11_shift ∈ gtbl := gt4 127 rfl rfl
theorem ml_X11_267 : Cond.methodLink RX11 267 yX11_moveBy ∈ gtbl := gt4 131 rfl rfl
theorem ml_X11_217 : Cond.methodLink RX11 217 yX5_first ∈ gtbl := gt4 135 rfl rfl
theorem ml_X11_470 : Cond.methodLink RX11 470 yX5_begin ∈ gtbl := gt4 136 rfl rfl
theorem ml_L_105 : Cond.methodLink RL 105 yX11_afternoon ∈ gtbl := gt4 140 rfl rfl
theorem ml_X11_270 : Cond.methodLink RX11 270 yX11_readActs ∈ gtbl := gt4 144 rfl rfl
theorem ml_X11_273 : Cond.methodLink RX11 273 yX11_readAct ∈ gtbl := gt4 148 rfl rfl
theorem ml_X11_482 : Cond.methodLink RX11 482 yX10_letter ∈ gtbl := gt4 152 rfl rfl
theorem ml_X11_485 : Cond.methodLink RX11 485 yX11_readShift ∈ gtbl := gt4 156 rfl rfl
theorem ml_X11_279 : Cond.methodLink RX11 279 yX11_doAct ∈ gtbl := gt4 160 rfl rfl
theorem ml_X11_282 : Cond.methodLink RX11 282 yX7_sum ∈ gtbl := gt4 164 rfl rfl
theorem ml_X7_149 : Cond.methodLink RX7 149 yX7_of ∈ gtbl := gt4 168 rfl rfl
theorem ml_X7_105 : Cond.methodLink RX7 105 yX5_who ∈ gtbl := gt4 172 rfl rfl
theorem ml_X7_110 : Cond.methodLink RX7 110 yX5_what ∈ gtbl := gt4 173 rfl rfl
theorem ml_X7_113 : Cond.methodLink RX7 113 yX5_first ∈ gtbl := gt4 174 rfl rfl
theorem ml_X7_116 : Cond.methodLink RX7 116 yX9_getWish ∈ gtbl := gt4 175 rfl rfl
theorem ml_X7_123 : Cond.methodLink RX7 123 yX5_goTogether ∈ gtbl := gt4 176 rfl rfl
theorem ml_X7_127 : Cond.methodLink RX7 127 yX9_length ∈ gtbl := gt4 177 rfl rfl
theorem ml_X7_134 : Cond.methodLink RX7 134 yX7_evaluate ∈ gtbl := gt4 178 rfl rfl
theorem ml_X7_145 : Cond.methodLink RX7 145 yX7_combine ∈ gtbl := gt4 182 rfl rfl
theorem ml_X7_137 : Cond.methodLink RX7 137 yJ9_min_7cf53 ∈ gtbl := gt4 185 rfl rfl
theorem ml_X7_142 : Cond.methodLink RX7 142 yJ9_max_7cf53 ∈ gtbl := gt4 186 rfl rfl
theorem ml_X11_285 : Cond.methodLink RX11 285 yX6_two ∈ gtbl := gt4 187 rfl rfl
theorem ml_X6_24 : Cond.methodLink RX6 24 yX6_one ∈ gtbl := gt4 191 rfl rfl
theorem ml_X6_17 : Cond.methodLink RX6 17 yX6_clear ∈ gtbl := gt4 195 rfl rfl
theorem ml_X6_20 : Cond.methodLink RX6 20 yX6_add ∈ gtbl := gt4 199 rfl rfl
theorem ml_L_109 : Cond.methodLink RL 109 yX11_undo ∈ gtbl := gt4 203 rfl rfl
theorem ml_X11_289 : Cond.methodLink RX11 289 yX4_pop ∈ gtbl := gt4 207 rfl rfl
theorem ml_L_113 : Cond.methodLink RL 113 yX11_alone ∈ gtbl := gt4 211 rfl rfl
theorem ml_X11_294 : Cond.methodLink RX11 294 yX2_has ∈ gtbl := gt4 215 rfl rfl
theorem ml_X11_295 : Cond.methodLink RX11 295 yX6_three ∈ gtbl := gt4 219 rfl rfl
theorem ml_X6_27 : Cond.methodLink RX6 27 yX6_two ∈ gtbl := gt4 223 rfl rfl
theorem ml_L_117 : Cond.methodLink RL 117 yX11_bench ∈ gtbl := gt4 224 rfl rfl
theorem ml_X11_312 : Cond.methodLink RX11 312 yX1_benchIn ∈ gtbl := gt4 228 rfl rfl
theorem ml_X1_110 : Cond.methodLink RX1 110 yX2_has ∈ gtbl := gt4 232 rfl rfl
theorem ml_L_121 : Cond.methodLink RL 121 yX11_worth ∈ gtbl := gt4 233 rfl rfl
theorem ml_L_125 : Cond.methodLink RL 125 yX11_stays ∈ gtbl := gt4 237 rfl rfl
theorem ml_X11_175 : Cond.methodLink RX11 175 yX1_atBench ∈ gtbl := gt5 1 rfl rfl
theorem ml_L_129 : Cond.methodLink RL 129 yX11_stuck ∈ gtbl := gt5 5 rfl rfl
theorem ml_X11_315 : Cond.methodLink RX11 315 yJ6_bitCount_0f7a4 ∈ gtbl := gt5 9 rfl rfl
theorem ml_X11_320 : Cond.methodLink RX11 320 yJ6_numberOfTrailingZeros_0f7a4 ∈ gtbl := gt5 15 rfl rfl
theorem ml_L_133 : Cond.methodLink RL 133 yX11_hands ∈ gtbl := gt5 19 rfl rfl
theorem ml_X11_214 : Cond.methodLink RX11 214 yX5_what ∈ gtbl := gt5 23 rfl rfl
theorem ml_X11_220 : Cond.methodLink RX11 220 yX1_back ∈ gtbl := gt5 24 rfl rfl
theorem ml_X11_211 : Cond.methodLink RX11 211 yX5_who ∈ gtbl := gt5 25 rfl rfl
theorem ml_L_137 : Cond.methodLink RL 137 yX11_earliest ∈ gtbl := gt5 26 rfl rfl
theorem ml_X11_323 : Cond.methodLink RX11 323 yX3_soonest ∈ gtbl := gt5 30 rfl rfl
theorem ml_X3_57 : Cond.methodLink RX3 57 yX3_firstOpen ∈ gtbl := gt5 34 rfl rfl
theorem ml_X3_42 : Cond.methodLink RX3 42 yJ9_max_7cf53 ∈ gtbl := gt5 38 rfl rfl
theorem ml_X3_61 : Cond.methodLink RX3 61 yX3_lastOpen ∈ gtbl := gt5 39 rfl rfl
theorem ml_X3_54 : Cond.methodLink RX3 54 yJ9_min_7cf53 ∈ gtbl := gt5 43 rfl rfl
theorem ml_X3_64 : Cond.methodLink RX3 64 yX1_hindrance ∈ gtbl := gt5 44 rfl rfl
theorem ml_X11_326 : Cond.methodLink RX11 326 yX11_tellMinute ∈ gtbl := gt5 45 rfl rfl
theorem ml_X11_488 : Cond.methodLink RX11 488 yX9_length ∈ gtbl := gt5 49 rfl rfl
theorem ml_X11_362 : Cond.methodLink RX11 362 yX6_one ∈ gtbl := gt5 50 rfl rfl
theorem ml_L_141 : Cond.methodLink RL 141 yX11_latest ∈ gtbl := gt5 51 rfl rfl
theorem ml_X11_329 : Cond.methodLink RX11 329 yX3_last ∈ gtbl := gt5 55 rfl rfl
theorem ml_L_145 : Cond.methodLink RL 145 yX11_best ∈ gtbl := gt5 59 rfl rfl
theorem ml_X11_332 : Cond.methodLink RX11 332 yX3_bestFor ∈ gtbl := gt5 63 rfl rfl
theorem ml_X3_74 : Cond.methodLink RX3 74 yX3_soonest ∈ gtbl := gt5 67 rfl rfl
theorem ml_X3_80 : Cond.methodLink RX3 80 yX5_add ∈ gtbl := gt5 68 rfl rfl
theorem ml_X3_89 : Cond.methodLink RX3 89 yX7_of ∈ gtbl := gt5 69 rfl rfl
theorem ml_X3_94 : Cond.methodLink RX3 94 yX5_removeLast ∈ gtbl := gt5 70 rfl rfl
theorem ml_X5_17 : Cond.methodLink RX5 17 yJ9_max_7cf53 ∈ gtbl := gt5 74 rfl rfl
theorem ml_X3_100 : Cond.methodLink RX3 100 yX9_length ∈ gtbl := gt5 75 rfl rfl
theorem ml_L_149 : Cond.methodLink RL 149 yX11_most ∈ gtbl := gt5 76 rfl rfl
theorem ml_X11_341 : Cond.methodLink RX11 341 yX3_search ∈ gtbl := gt5 80 rfl rfl
theorem ml_X3_112 : Cond.methodLink RX3 112 yX1_look ∈ gtbl := gt5 84 rfl rfl
theorem ml_X3_115 : Cond.methodLink RX3 115 yX3_put ∈ gtbl := gt5 85 rfl rfl
theorem ml_X3_127 : Cond.methodLink RX3 127 yX7_sumTogether ∈ gtbl := gt5 89 rfl rfl
theorem ml_X3_119 : Cond.methodLink RX3 119 yX3_take ∈ gtbl := gt5 93 rfl rfl
theorem ml_X3_130 : Cond.methodLink RX3 130 arraycopyName ∈ gtbl := gt5 97 rfl rfl
theorem ml_X3_123 : Cond.methodLink RX3 123 yX3_trySecond ∈ gtbl := gt5 98 rfl rfl
theorem ml_X11_344 : Cond.methodLink RX11 344 yX6_clear ∈ gtbl := gt5 102 rfl rfl
theorem ml_X11_353 : Cond.methodLink RX11 353 yX6_add ∈ gtbl := gt5 103 rfl rfl
theorem ml_L_153 : Cond.methodLink RL 153 yX11_open ∈ gtbl := gt5 104 rfl rfl
theorem ml_X11_205 : Cond.methodLink RX11 205 yX5_ofErrand ∈ gtbl := gt5 108 rfl rfl
theorem ml_X5_37 : Cond.methodLink RX5 37 yX5_what ∈ gtbl := gt5 112 rfl rfl
theorem ml_X11_359 : Cond.methodLink RX11 359 yX3_someone ∈ gtbl := gt5 113 rfl rfl
theorem ml_L_157 : Cond.methodLink RL 157 yX11_mend ∈ gtbl := gt5 117 rfl rfl
theorem ml_X11_365 : Cond.methodLink RX11 365 yX11_mendsBy ∈ gtbl := gt5 121 rfl rfl
theorem ml_X11_490 : Cond.methodLink RX11 490 yX11_isSoundWithout ∈ gtbl := gt5 125 rfl rfl
theorem ml_X11_496 : Cond.methodLink RX11 496 yX5_copyWithout ∈ gtbl := gt5 129 rfl rfl
theorem ml_X11_500 : Cond.methodLink RX11 500 yX2_isEmpty ∈ gtbl := gt5 133 rfl rfl
theorem ml_X11_493 : Cond.methodLink RX11 493 yX11_tellBits ∈ gtbl := gt5 137 rfl rfl
theorem ml_L_161 : Cond.methodLink RL 161 yX11_parts ∈ gtbl := gt5 141 rfl rfl
theorem ml_X11_371 : Cond.methodLink RX11 371 yJ9_max_7cf53 ∈ gtbl := gt5 145 rfl rfl
theorem ml_X11_376 : Cond.methodLink RX11 376 yJ9_min_7cf53 ∈ gtbl := gt5 146 rfl rfl
theorem ml_L_165 : Cond.methodLink RL 165 yX11_turn ∈ gtbl := gt5 147 rfl rfl
theorem ml_X11_379 : Cond.methodLink RX11 379 yX11_readDays ∈ gtbl := gt5 151 rfl rfl
theorem ml_X11_382 : Cond.methodLink RX11 382 yX10_times ∈ gtbl := gt5 155 rfl rfl
theorem ml_X11_385 : Cond.methodLink RX11 385 yX10_lastTime ∈ gtbl := gt5 159 rfl rfl
theorem ml_L_169 : Cond.methodLink RL 169 yX11_lockers ∈ gtbl := gt5 163 rfl rfl
theorem ml_X11_388 : Cond.methodLink RX11 388 yX0_read ∈ gtbl := gt5 167 rfl rfl
theorem ml_X0_28 : Cond.methodLink RX0 28 yX10_atEnd ∈ gtbl := gt5 171 rfl rfl
theorem ml_X0_34 : Cond.methodLink RX0 34 yX10_digit ∈ gtbl := gt5 172 rfl rfl
theorem ml_X11_391 : Cond.methodLink RX11 391 yX0_fewest ∈ gtbl := gt5 173 rfl rfl
theorem ml_X0_49 : Cond.methodLink RX0 49 yX0_weigh ∈ gtbl := gt5 177 rfl rfl
theorem ml_X0_39 : Cond.methodLink RX0 39 yX0_withOneMore ∈ gtbl := gt5 182 rfl rfl
theorem ml_X0_43 : Cond.methodLink RX0 43 yJ9_min_7cf53 ∈ gtbl := gt5 185 rfl rfl
theorem ml_X0_53 : Cond.methodLink RX0 53 yJ7_fill_53178 ∈ gtbl := gt5 186 rfl rfl
theorem ml_X0_59 : Cond.methodLink RX0 59 yX0_place ∈ gtbl := gt5 187 rfl rfl
theorem ml_X0_63 : Cond.methodLink RX0 63 yJ9_max_7cf53 ∈ gtbl := gt5 191 rfl rfl
theorem ml_L_173 : Cond.methodLink RL 173 yX11_left ∈ gtbl := gt5 192 rfl rfl
theorem ml_X11_398 : Cond.methodLink RX11 398 yX0_mostInto ∈ gtbl := gt5 196 rfl rfl
theorem ml_X0_66 : Cond.methodLink RX0 66 yX0_sizeOf ∈ gtbl := gt5 200 rfl rfl
theorem ml_X0_69 : Cond.methodLink RX0 69 yJ6_bitCount_0f7a4 ∈ gtbl := gt5 204 rfl rfl
theorem ml_X11_401 : Cond.methodLink RX11 401 yX0_sizeOf ∈ gtbl := gt5 205 rfl rfl
theorem ml_L_177 : Cond.methodLink RL 177 yX11_slack ∈ gtbl := gt5 206 rfl rfl
theorem ml_X11_404 : Cond.methodLink RX11 404 yX1_slackOf ∈ gtbl := gt5 210 rfl rfl
theorem ml_X1_158 : Cond.methodLink RX1 158 yX1_brokenBy ∈ gtbl := gt5 214 rfl rfl
theorem ml_X1_161 : Cond.methodLink RX1 161 yJ9_min_7cf53 ∈ gtbl := gt5 215 rfl rfl
theorem ml_L_181 : Cond.methodLink RL 181 yX11_tight ∈ gtbl := gt5 216 rfl rfl
theorem ml_X11_407 : Cond.methodLink RX11 407 yX1_lookForSlack ∈ gtbl := gt5 220 rfl rfl
theorem ml_X1_164 : Cond.methodLink RX1 164 yX1_slackOf ∈ gtbl := gt5 224 rfl rfl
theorem ml_L_185 : Cond.methodLink RL 185 yX11_chance ∈ gtbl := gt5 225 rfl rfl
theorem ml_X11_415 : Cond.methodLink RX11 415 yX11_greatestCommon ∈ gtbl := gt5 230 rfl rfl
theorem ml_L_189 : Cond.methodLink RL 189 yX11_seen ∈ gtbl := gt5 233 rfl rfl
theorem ml_X11_419 : Cond.methodLink RX11 419 yX8_add ∈ gtbl := gt5 237 rfl rfl
theorem ml_L_193 : Cond.methodLink RL 193 yX11_forget ∈ gtbl := gt6 1 rfl rfl
theorem ml_L_197 : Cond.methodLink RL 197 yX11_fits ∈ gtbl := gt6 5 rfl rfl
theorem ml_X11_422 : Cond.methodLink RX11 422 yX8_fitsPlan ∈ gtbl := gt6 9 rfl rfl
theorem ml_X8_38 : Cond.methodLink RX8 38 yX5_who ∈ gtbl := gt6 13 rfl rfl
theorem ml_X8_41 : Cond.methodLink RX8 41 yX5_what ∈ gtbl := gt6 14 rfl rfl
theorem ml_X8_43 : Cond.methodLink RX8 43 yX5_first ∈ gtbl := gt6 15 rfl rfl
theorem ml_X8_46 : Cond.methodLink RX8 46 yX8_isThere ∈ gtbl := gt6 16 rfl rfl
theorem ml_L_201 : Cond.methodLink RL 201 yX11_since ∈ gtbl := gt6 20 rfl rfl
theorem ml_X11_426 : Cond.methodLink RX11 426 yX9_endsInTime ∈ gtbl := gt6 24 rfl rfl
theorem ml_X11_430 : Cond.methodLink RX11 430 yX9_isOpen ∈ gtbl := gt6 25 rfl rfl
theorem ml_X11_433 : Cond.methodLink RX11 433 yX8_allow ∈ gtbl := gt6 26 rfl rfl
theorem ml_X8_50 : Cond.methodLink RX8 50 yX9_length ∈ gtbl := gt6 30 rfl rfl
theorem ml_L_205 : Cond.methodLink RL 205 yX11_stayed ∈ gtbl := gt6 31 rfl rfl
theorem ml_X11_436 : Cond.methodLink RX11 436 yX8_allowBench ∈ gtbl := gt6 35 rfl rfl
theorem ml_X8_53 : Cond.methodLink RX8 53 yJ9_abs_0f7a4 ∈ gtbl := gt6 39 rfl rfl
theorem ml_L_209 : Cond.methodLink RL 209 yX11_journey ∈ gtbl := gt6 42 rfl rfl
theorem ml_X11_442 : Cond.methodLink RX11 442 yJ7_fill_53178 ∈ gtbl := gt6 46 rfl rfl
theorem ml_X11_449 : Cond.methodLink RX11 449 yX11_tellMisses ∈ gtbl := gt6 48 rfl rfl
theorem ml_L_213 : Cond.methodLink RL 213 yX11_keep ∈ gtbl := gt6 52 rfl rfl
theorem ml_X11_452 : Cond.methodLink RX11 452 yX4_store ∈ gtbl := gt6 56 rfl rfl
theorem ml_L_217 : Cond.methodLink RL 217 yX11_again ∈ gtbl := gt6 60 rfl rfl
theorem ml_X11_456 : Cond.methodLink RX11 456 yX4_fetch ∈ gtbl := gt6 64 rfl rfl
theorem ml_L_221 : Cond.methodLink RL 221 yX11_count ∈ gtbl := gt6 68 rfl rfl
theorem ml_X11_459 : Cond.methodLink RX11 459 yX9_shyOnes ∈ gtbl := gt6 72 rfl rfl
theorem ml_L_56 : Cond.methodLink RL 56 yL_person ∈ gtbl := gt6 76 rfl rfl
theorem ml_L_7 : Cond.methodLink RL 7 yX11_person ∈ gtbl := gt6 80 rfl rfl
theorem ml_X11_161 : Cond.methodLink RX11 161 ⟨"java/util/NoSuchElementException", "<init>", "()V"⟩ ∈ gtbl := gt6 123 rfl rfl
theorem ml_X11_169 : Cond.methodLink RX11 169 yX5_ofPerson ∈ gtbl := gt6 145 rfl rfl
theorem ml_X5_33 : Cond.methodLink RX5 33 yX5_who ∈ gtbl := gt6 149 rfl rfl
theorem ml_X11_178 : Cond.methodLink RX11 178 yX1_longestAtBench ∈ gtbl := gt6 150 rfl rfl
theorem ml_X1_114 : Cond.methodLink RX1 114 yJ9_max_7cf53 ∈ gtbl := gt6 154 rfl rfl
theorem ml_X11_181 : Cond.methodLink RX11 181 yX7_sumOf ∈ gtbl := gt6 155 rfl rfl
theorem ml_L_65 : Cond.methodLink RL 65 yL_errand ∈ gtbl := gt6 159 rfl rfl
theorem ml_L_15 : Cond.methodLink RL 15 yX11_errand ∈ gtbl := gt6 162 rfl rfl
theorem ml_L_68 : Cond.methodLink RL 68 yL_trip ∈ gtbl := gt6 166 rfl rfl
theorem ml_L_18 : Cond.methodLink RL 18 yX11_trip ∈ gtbl := gt6 169 rfl rfl
theorem ml_X11_223 : Cond.methodLink RX11 223 yX7_of ∈ gtbl := gt6 173 rfl rfl
theorem ml_L_225 : Cond.methodLink RL 225 yL_row ∈ gtbl := gt6 174 rfl rfl
theorem ml_L_21 : Cond.methodLink RL 21 yX11_row ∈ gtbl := gt6 177 rfl rfl
theorem ml_L_28 : Cond.methodLink RL 28 yX12_init ∈ gtbl := gt6 183 rfl rfl
theorem ml_X12_3 : Cond.methodLink RX12 3 objectInit ∈ gtbl := gt6 186 rfl rfl
theorem ml_L_62 : Cond.methodLink RL 62 yX12_thrown ∈ gtbl := gt7 125 rfl rfl
theorem ml_L_33 : Cond.methodLink RL 33 yX12_sign ∈ gtbl := gt7 129 rfl rfl
theorem ml_L_38 : Cond.methodLink RL 38 yX12_end ∈ gtbl := gt7 133 rfl rfl
theorem ml_X12_146 : Cond.methodLink RX12 146 yX12_in ∈ gtbl := gt7 137 rfl rfl
theorem ml_L_43 : Cond.methodLink RL 43 yX12_station ∈ gtbl := gt7 140 rfl rfl
theorem ml_X12_231 : Cond.methodLink RX12 231 yX12_begins ∈ gtbl := gt7 144 rfl rfl
theorem ml_X12_162 : Cond.methodLink RX12 162 yJ9_min_7cf53 ∈ gtbl := gt7 148 rfl rfl
theorem ml_X12_234 : Cond.methodLink RX12 234 yX12_readsLine ∈ gtbl := gt7 149 rfl rfl
theorem ml_X12_189 : Cond.methodLink RX12 189 yX12_among ∈ gtbl := gt7 154 rfl rfl
theorem ml_X12_179 : Cond.methodLink RX12 179 yJ0_length_8abf5 ∈ gtbl := gt7 158 rfl rfl
theorem ml_X12_185 : Cond.methodLink RX12 185 yJ0_charAt_5068e ∈ gtbl := gt7 159 rfl rfl
theorem ml_J0_495 : Cond.methodLink RJ0 495 yJ1_charAt_3b067 ∈ gtbl := gt7 163 rfl rfl
theorem ml_J1_9 : Cond.methodLink RJ1 9 yJ0_checkIndex_df160 ∈ gtbl := gt7 166 rfl rfl
theorem ml_J0_1059 : Cond.methodLink RJ0 1059 yJ3_checkIndex_8e157 ∈ gtbl := gt7 169 rfl rfl
theorem ml_J0_498 : Cond.methodLink RJ0 498 yJ2_charAt_3b067 ∈ gtbl := gt7 172 rfl rfl
theorem ml_J2_67 : Cond.methodLink RJ2 67 yJ2_checkIndex_2214a ∈ gtbl := gt7 175 rfl rfl
theorem ml_J2_414 : Cond.methodLink RJ2 414 yJ0_checkIndex_df160 ∈ gtbl := gt7 178 rfl rfl
theorem ml_X12_223 : Cond.methodLink RX12 223 yX12_readsPerson ∈ gtbl := gt7 179 rfl rfl
theorem ml_X12_202 : Cond.methodLink RX12 202 yX12_takes ∈ gtbl := gt7 183 rfl rfl
theorem ml_X12_171 : Cond.methodLink RX12 171 yX12_flag ∈ gtbl := gt7 187 rfl rfl
theorem ml_X12_228 : Cond.methodLink RX12 228 yX12_readsErrand ∈ gtbl := gt7 191 rfl rfl
theorem ml_X12_209 : Cond.methodLink RX12 209 yX12_digit ∈ gtbl := gt7 195 rfl rfl
theorem ml_X12_193 : Cond.methodLink RX12 193 yX12_isDigit ∈ gtbl := gt7 199 rfl rfl
theorem ml_X12_212 : Cond.methodLink RX12 212 yX12_number ∈ gtbl := gt7 205 rfl rfl
theorem ml_X12_218 : Cond.methodLink RX12 218 yX12_takesOf ∈ gtbl := gt7 210 rfl rfl
theorem ml_X12_237 : Cond.methodLink RX12 237 yX12_faultOf ∈ gtbl := gt7 214 rfl rfl
theorem ml_L_47 : Cond.methodLink RL 47 yX12_wishes ∈ gtbl := gt7 218 rfl rfl
theorem ml_X12_247 : Cond.methodLink RX12 247 yX12_isPerson ∈ gtbl := gt7 222 rfl rfl
theorem ml_L_51 : Cond.methodLink RL 51 yX12_rule ∈ gtbl := gt7 226 rfl rfl
theorem ml_X12_262 : Cond.methodLink RX12 262 yX12_readsRank ∈ gtbl := gt7 230 rfl rfl
theorem ml_X12_253 : Cond.methodLink RX12 253 yX12_readsNode ∈ gtbl := gt7 234 rfl rfl
theorem ml_X12_256 : Cond.methodLink RX12 256 yX12_codes ∈ gtbl := gt7 238 rfl rfl
theorem ml_L_55 : Cond.methodLink RL 55 yX12_plan ∈ gtbl := gt8 6 rfl rfl
theorem ml_X12_340 : Cond.methodLink RX12 340 yX12_readsTrip ∈ gtbl := gt8 10 rfl rfl
theorem ml_X12_333 : Cond.methodLink RX12 333 yX12_letter ∈ gtbl := gt8 14 rfl rfl
theorem ml_X12_336 : Cond.methodLink RX12 336 yX12_comes ∈ gtbl := gt8 19 rfl rfl
theorem ml_X12_343 : Cond.methodLink RX12 343 yX12_putsBy ∈ gtbl := gt8 22 rfl rfl
theorem ml_X12_346 : Cond.methodLink RX12 346 yX12_puts ∈ gtbl := gt8 26 rfl rfl
theorem ml_X12_350 : Cond.methodLink RX12 350 yX12_adds ∈ gtbl := gt8 29 rfl rfl
theorem ml_L_61 : Cond.methodLink RL 61 yX12_person ∈ gtbl := gt8 33 rfl rfl
theorem ml_X12_355 : Cond.methodLink RX12 355 yX12_refuse ∈ gtbl := gt8 38 rfl rfl
theorem ml_X12_293 : Cond.methodLink RX12 293 yX12_who ∈ gtbl := gt8 42 rfl rfl
theorem ml_X12_314 : Cond.methodLink RX12 314 yX12_worthOf ∈ gtbl := gt8 45 rfl rfl
theorem ml_X12_303 : Cond.methodLink RX12 303 yX12_worked ∈ gtbl := gt8 49 rfl rfl
theorem ml_X12_307 : Cond.methodLink RX12 307 yX12_thingOf ∈ gtbl := gt8 52 rfl rfl
theorem ml_X12_278 : Cond.methodLink RX12 278 yX12_what ∈ gtbl := gt8 56 rfl rfl
theorem ml_X12_281 : Cond.methodLink RX12 281 yX12_awayLong ∈ gtbl := gt8 59 rfl rfl
theorem ml_X12_274 : Cond.methodLink RX12 274 yX12_start ∈ gtbl := gt8 63 rfl rfl
theorem ml_X12_300 : Cond.methodLink RX12 300 yX12_areOne ∈ gtbl := gt8 66 rfl rfl
theorem ml_X12_311 : Cond.methodLink RX12 311 yJ9_max_7cf53 ∈ gtbl := gt8 69 rfl rfl
theorem ml_X12_323 : Cond.methodLink RX12 323 yX12_benchIn ∈ gtbl := gt8 70 rfl rfl
theorem ml_X12_317 : Cond.methodLink RX12 317 yX12_isAway ∈ gtbl := gt8 74 rfl rfl
theorem ml_X12_284 : Cond.methodLink RX12 284 yX12_back ∈ gtbl := gt8 78 rfl rfl
theorem ml_X12_358 : Cond.methodLink RX12 358 yX12_has ∈ gtbl := gt8 82 rfl rfl
theorem ml_L_67 : Cond.methodLink RL 67 yX12_errand ∈ gtbl := gt8 85 rfl rfl
theorem ml_X12_361 : Cond.methodLink RX12 361 yX12_isErrand ∈ gtbl := gt8 89 rfl rfl
theorem ml_L_70 : Cond.methodLink RL 70 yX12_trip ∈ gtbl := gt8 94 rfl rfl
theorem ml_X12_366 : Cond.methodLink RX12 366 yX12_isTrip ∈ gtbl := gt8 98 rfl rfl
theorem ml_X12_369 : Cond.methodLink RX12 369 yX12_whyNot ∈ gtbl := gt8 102 rfl rfl
theorem ml_X12_289 : Cond.methodLink RX12 289 yX12_fitsIn ∈ gtbl := gt8 106 rfl rfl
theorem ml_X12_296 : Cond.methodLink RX12 296 yX12_meet ∈ gtbl := gt8 111 rfl rfl
theorem ml_L_75 : Cond.methodLink RL 75 yX12_wish ∈ gtbl := gt8 115 rfl rfl
theorem ml_L_79 : Cond.methodLink RL 79 yX12_train ∈ gtbl := gt8 120 rfl rfl
theorem ml_L_84 : Cond.methodLink RL 84 yX12_sheet ∈ gtbl := gt8 125 rfl rfl
theorem ml_L_112 : Cond.methodLink RL 112 yX12_undo ∈ gtbl := gt8 130 rfl rfl
theorem ml_L_88 : Cond.methodLink RL 88 yX12_may ∈ gtbl := gt8 134 rfl rfl
theorem ml_X12_381 : Cond.methodLink RX12 381 yX12_canAsk ∈ gtbl := gt8 138 rfl rfl
theorem ml_X12_385 : Cond.methodLink RX12 385 yX12_mayNot ∈ gtbl := gt8 142 rfl rfl
theorem ml_X12_378 : Cond.methodLink RX12 378 yX12_isNoWorse ∈ gtbl := gt8 146 rfl rfl
theorem ml_X12_329 : Cond.methodLink RX12 329 yX12_isWatched ∈ gtbl := gt8 150 rfl rfl
theorem ml_X12_326 : Cond.methodLink RX12 326 yX12_seersIn ∈ gtbl := gt8 154 rfl rfl
theorem ml_X12_320 : Cond.methodLink RX12 320 yX12_isThere ∈ gtbl := gt8 158 rfl rfl
theorem ml_L_92 : Cond.methodLink RL 92 yX12_go ∈ gtbl := gt8 162 rfl rfl
theorem ml_X12_388 : Cond.methodLink RX12 388 yX12_goes ∈ gtbl := gt8 166 rfl rfl
theorem ml_L_96 : Cond.methodLink RL 96 yX12_pair ∈ gtbl := gt8 170 rfl rfl
theorem ml_L_100 : Cond.methodLink RL 100 yX12_strike ∈ gtbl := gt8 174 rfl rfl
theorem ml_X12_395 : Cond.methodLink RX12 395 yX12_strikes ∈ gtbl := gt8 178 rfl rfl
theorem ml_X12_391 : Cond.methodLink RX12 391 yX12_leaves ∈ gtbl := gt8 182 rfl rfl
theorem ml_L_104 : Cond.methodLink RL 104 yX12_shift ∈ gtbl := gt8 185 rfl rfl
theorem ml_X12_400 : Cond.methodLink RX12 400 yX12_shifts ∈ gtbl := gt8 189 rfl rfl
theorem ml_L_108 : Cond.methodLink RL 108 yX12_afternoon ∈ gtbl := gt8 194 rfl rfl
theorem ml_X12_408 : Cond.methodLink RX12 408 yX12_readsAct ∈ gtbl := gt8 198 rfl rfl
theorem ml_X12_411 : Cond.methodLink RX12 411 yX12_does ∈ gtbl := gt8 203 rfl rfl
theorem ml_X12_414 : Cond.methodLink RX12 414 yX12_enters ∈ gtbl := gt8 207 rfl rfl
theorem ml_X12_418 : Cond.methodLink RX12 418 yX12_worthAll ∈ gtbl := gt8 211 rfl rfl
theorem ml_L_116 : Cond.methodLink RL 116 yX12_alone ∈ gtbl := gt8 215 rfl rfl
theorem ml_L_120 : Cond.methodLink RL 120 yX12_bench ∈ gtbl := gt8 219 rfl rfl
theorem ml_X12_422 : Cond.methodLink RX12 422 yX12_isMinute ∈ gtbl := gt8 223 rfl rfl
theorem ml_L_124 : Cond.methodLink RL 124 yX12_worth ∈ gtbl := gt8 227 rfl rfl
theorem ml_L_128 : Cond.methodLink RL 128 yX12_stays ∈ gtbl := gt8 231 rfl rfl
theorem ml_X12_425 : Cond.methodLink RX12 425 yX12_benchLong ∈ gtbl := gt8 235 rfl rfl
theorem ml_L_132 : Cond.methodLink RL 132 yX12_stuck ∈ gtbl := gt8 239 rfl rfl
theorem ml_X12_428 : Cond.methodLink RX12 428 yJ6_bitCount_0f7a4 ∈ gtbl := gt9 3 rfl rfl
theorem ml_X12_433 : Cond.methodLink RX12 433 yJ6_numberOfTrailingZeros_0f7a4 ∈ gtbl := gt9 4 rfl rfl
theorem ml_L_136 : Cond.methodLink RL 136 yX12_hands ∈ gtbl := gt9 5 rfl rfl
theorem ml_L_140 : Cond.methodLink RL 140 yX12_earliest ∈ gtbl := gt9 10 rfl rfl
theorem ml_X12_438 : Cond.methodLink RX12 438 yX12_earliestFor ∈ gtbl := gt9 14 rfl rfl
theorem ml_X12_441 : Cond.methodLink RX12 441 yX12_tellsBack ∈ gtbl := gt9 18 rfl rfl
theorem ml_L_144 : Cond.methodLink RL 144 yX12_latest ∈ gtbl := gt9 22 rfl rfl
theorem ml_X12_444 : Cond.methodLink RX12 444 yX12_latestFor ∈ gtbl := gt9 26 rfl rfl
theorem ml_L_148 : Cond.methodLink RL 148 yX12_best ∈ gtbl := gt9 30 rfl rfl
theorem ml_L_152 : Cond.methodLink RL 152 yX12_most ∈ gtbl := gt9 34 rfl rfl
theorem ml_X12_453 : Cond.methodLink RX12 453 yX12_putsIn ∈ gtbl := gt9 38 rfl rfl
theorem ml_L_156 : Cond.methodLink RL 156 yX12_open ∈ gtbl := gt9 42 rfl rfl
theorem ml_L_160 : Cond.methodLink RL 160 yX12_mend ∈ gtbl := gt9 46 rfl rfl
theorem ml_X12_461 : Cond.methodLink RX12 461 yX12_strikesMore ∈ gtbl := gt9 50 rfl rfl
theorem ml_X12_457 : Cond.methodLink RX12 457 yX12_isFine ∈ gtbl := gt9 54 rfl rfl
theorem ml_L_164 : Cond.methodLink RL 164 yX12_parts ∈ gtbl := gt9 58 rfl rfl
theorem ml_L_168 : Cond.methodLink RL 168 yX12_turn ∈ gtbl := gt9 62 rfl rfl
theorem ml_L_172 : Cond.methodLink RL 172 yX12_lockers ∈ gtbl := gt9 66 rfl rfl
theorem ml_X12_475 : Cond.methodLink RX12 475 yX12_readsBags ∈ gtbl := gt9 71 rfl rfl
theorem ml_X12_478 : Cond.methodLink RX12 478 yX12_canPack ∈ gtbl := gt9 76 rfl rfl
theorem ml_X12_469 : Cond.methodLink RX12 469 yX12_packs ∈ gtbl := gt9 80 rfl rfl
theorem ml_L_176 : Cond.methodLink RL 176 yX12_left ∈ gtbl := gt9 84 rfl rfl
theorem ml_X12_483 : Cond.methodLink RX12 483 yX12_sizeOf ∈ gtbl := gt9 89 rfl rfl
theorem ml_L_180 : Cond.methodLink RL 180 yX12_slack ∈ gtbl := gt9 93 rfl rfl
theorem ml_X12_486 : Cond.methodLink RX12 486 yX12_isLawful ∈ gtbl := gt9 97 rfl rfl
theorem ml_X12_489 : Cond.methodLink RX12 489 yX12_slackOf ∈ gtbl := gt9 101 rfl rfl
theorem ml_L_184 : Cond.methodLink RL 184 yX12_tight ∈ gtbl := gt9 105 rfl rfl
theorem ml_L_188 : Cond.methodLink RL 188 yX12_chance ∈ gtbl := gt9 109 rfl rfl
theorem ml_X12_136 : Cond.methodLink RX12 136 yX12_common ∈ gtbl := gt9 114 rfl rfl
theorem ml_L_192 : Cond.methodLink RL 192 yX12_seen ∈ gtbl := gt9 117 rfl rfl
theorem ml_L_196 : Cond.methodLink RL 196 yX12_forget ∈ gtbl := gt9 121 rfl rfl
theorem ml_L_200 : Cond.methodLink RL 200 yX12_fits ∈ gtbl := gt9 125 rfl rfl
theorem ml_L_204 : Cond.methodLink RL 204 yX12_since ∈ gtbl := gt9 129 rfl rfl
theorem ml_X12_497 : Cond.methodLink RX12 497 yX12_canHaveGone ∈ gtbl := gt9 133 rfl rfl
theorem ml_L_208 : Cond.methodLink RL 208 yX12_stayed ∈ gtbl := gt9 137 rfl rfl
theorem ml_X12_500 : Cond.methodLink RX12 500 yJ9_abs_0f7a4 ∈ gtbl := gt9 141 rfl rfl
theorem ml_L_212 : Cond.methodLink RL 212 yX12_journey ∈ gtbl := gt9 142 rfl rfl
theorem ml_L_216 : Cond.methodLink RL 216 yX12_keep ∈ gtbl := gt9 148 rfl rfl
theorem ml_L_220 : Cond.methodLink RL 220 yX12_again ∈ gtbl := gt9 152 rfl rfl
theorem ml_L_224 : Cond.methodLink RL 224 yX12_count ∈ gtbl := gt9 156 rfl rfl
theorem ml_X12_506 : Cond.methodLink RX12 506 yX12_shyOnes ∈ gtbl := gt9 160 rfl rfl
theorem ml_L_228 : Cond.methodLink RL 228 yX12_row ∈ gtbl := gt9 164 rfl rfl
theorem kc_J2_227 : Cond.constant RJ2 227 (65536) ∈ gtbl := gt3 118 rfl rfl
theorem kc_J11_110 : Cond.constant RJ11 110 (55232) ∈ gtbl := gt3 157 rfl rfl
theorem kc_J11_76 : Cond.constant RJ11 76 (56320) ∈ gtbl := gt3 161 rfl rfl
theorem kc_J6_265 : Cond.constant RJ6 265 (1431655765) ∈ gtbl := gt5 12 rfl rfl
theorem kc_J6_266 : Cond.constant RJ6 266 (858993459) ∈ gtbl := gt5 13 rfl rfl
theorem kc_J6_267 : Cond.constant RJ6 267 (252645135) ∈ gtbl := gt5 14 rfl rfl
theorem kc_J6_264 : Cond.constant RJ6 264 (65536) ∈ gtbl := gt5 18 rfl rfl
theorem kc_X0_38 : Cond.constant RX0 38 (1048576) ∈ gtbl := gt5 181 rfl rfl
theorem kc_X11_448 : Cond.constant RX11 448 (1103515245) ∈ gtbl := gt6 47 rfl rfl
theorem kc_X12_505 : Cond.constant RX12 505 (1103515245) ∈ gtbl := gt9 147 rfl rfl
theorem kl_X2_16 : Cond.constantLong RX2 16 (-1) ∈ gtbl := gt4 35 rfl rfl
theorem kl_X1_147 : Cond.constantLong RX1 147 (-1) ∈ gtbl := gt4 85 rfl rfl
theorem kl_X11_413 : Cond.constantLong RX11 413 (10) ∈ gtbl := gt5 229 rfl rfl
theorem kl_X12_175 : Cond.constantLong RX12 175 (48) ∈ gtbl := gt7 203 rfl rfl
theorem kl_X12_177 : Cond.constantLong RX12 177 (57) ∈ gtbl := gt7 204 rfl rfl
theorem kl_X12_197 : Cond.constantLong RX12 197 (97) ∈ gtbl := gt8 18 rfl rfl
theorem kl_X12_353 : Cond.constantLong RX12 353 (5) ∈ gtbl := gt8 37 rfl rfl
theorem kl_X12_364 : Cond.constantLong RX12 364 (6) ∈ gtbl := gt8 93 rfl rfl
theorem kl_X12_287 : Cond.constantLong RX12 287 (198) ∈ gtbl := gt8 110 rfl rfl
theorem kl_X12_372 : Cond.constantLong RX12 372 (9) ∈ gtbl := gt8 119 rfl rfl
theorem kl_X12_374 : Cond.constantLong RX12 374 (99) ∈ gtbl := gt8 124 rfl rfl
theorem kl_X12_376 : Cond.constantLong RX12 376 (3) ∈ gtbl := gt8 129 rfl rfl
theorem kl_X12_398 : Cond.constantLong RX12 398 (-99) ∈ gtbl := gt8 193 rfl rfl
theorem kl_X12_436 : Cond.constantLong RX12 436 (2) ∈ gtbl := gt9 9 rfl rfl
theorem kl_X12_473 : Cond.constantLong RX12 473 (20) ∈ gtbl := gt9 70 rfl rfl
theorem kl_X12_467 : Cond.constantLong RX12 467 (49) ∈ gtbl := gt9 75 rfl rfl
theorem kl_X12_481 : Cond.constantLong RX12 481 (4) ∈ gtbl := gt9 88 rfl rfl
theorem kl_X12_492 : Cond.constantLong RX12 492 (10) ∈ gtbl := gt9 113 rfl rfl
theorem kl_X12_503 : Cond.constantLong RX12 503 (50) ∈ gtbl := gt9 146 rfl rfl
theorem in_L : Cond.initialized RL ∈ gtbl := gt1 0 rfl rfl
theorem in_X11 : Cond.initialized RX11 ∈ gtbl := gt1 1 rfl rfl
theorem in_X10 : Cond.initialized RX10 ∈ gtbl := gt1 2 rfl rfl
theorem in_X6 : Cond.initialized RX6 ∈ gtbl := gt1 3 rfl rfl
theorem in_X9 : Cond.initialized RX9 ∈ gtbl := gt1 4 rfl rfl
theorem in_J7 : Cond.initialized RJ7 ∈ gtbl := gt1 5 rfl rfl
theorem in_X5 : Cond.initialized RX5 ∈ gtbl := gt1 6 rfl rfl
theorem in_X1 : Cond.initialized RX1 ∈ gtbl := gt1 7 rfl rfl
theorem in_X2 : Cond.initialized RX2 ∈ gtbl := gt1 8 rfl rfl
theorem in_X7 : Cond.initialized RX7 ∈ gtbl := gt1 9 rfl rfl
theorem in_X3 : Cond.initialized RX3 ∈ gtbl := gt1 10 rfl rfl
theorem in_X4 : Cond.initialized RX4 ∈ gtbl := gt1 11 rfl rfl
theorem in_X8 : Cond.initialized RX8 ∈ gtbl := gt1 12 rfl rfl
theorem in_X0 : Cond.initialized RX0 ∈ gtbl := gt1 13 rfl rfl
theorem in_X12 : Cond.initialized RX12 ∈ gtbl := gt1 14 rfl rfl
theorem in_J9 : Cond.initialized RJ9 ∈ gtbl := gt1 15 rfl rfl
theorem in_J0 : Cond.initialized RJ0 ∈ gtbl := gt1 16 rfl rfl
theorem in_J1 : Cond.initialized RJ1 ∈ gtbl := gt1 17 rfl rfl
theorem in_J3 : Cond.initialized RJ3 ∈ gtbl := gt1 18 rfl rfl
theorem in_J2 : Cond.initialized RJ2 ∈ gtbl := gt1 19 rfl rfl
theorem in_J11 : Cond.initialized RJ11 ∈ gtbl := gt1 20 rfl rfl
theorem in_J10 : Cond.initialized RJ10 ∈ gtbl := gt1 21 rfl rfl
theorem in_J6 : Cond.initialized RJ6 ∈ gtbl := gt1 26 rfl rfl
theorem cal_X11_init : Cal yX11_init cX11_init 1 none 0 := ⟨gt1 31 rfl rfl, in_X11, (by decide +kernel)⟩
theorem ci_X11_init : CIt yX11_init cX11_init 1 0 := ⟨cal_X11_init, gt1 30 rfl rfl, rfl⟩
theorem cal_X10_init : Cal yX10_init cX10_init 1 none 0 := ⟨gt1 39 rfl rfl, in_X10, (by decide +kernel)⟩
theorem ci_X10_init : CIt yX10_init cX10_init 1 0 := ⟨cal_X10_init, gt1 38 rfl rfl, rfl⟩
theorem cal_X6_init : Cal yX6_init cX6_init 1 none 0 := ⟨gt1 63 rfl rfl, in_X6, (by decide +kernel)⟩
theorem ci_X6_init : CIt yX6_init cX6_init 1 0 := ⟨cal_X6_init, gt1 62 rfl rfl, rfl⟩
theorem cal_X9_init : Cal yX9_init cX9_init 1 none 0 := ⟨gt1 79 rfl rfl, in_X9, (by decide +kernel)⟩
theorem ci_X9_init : CIt yX9_init cX9_init 1 0 := ⟨cal_X9_init, gt1 78 rfl rfl, rfl⟩
theorem cal_J7_fill_53178 : Cal yJ7_fill_53178 cJ7_fill_53178 4 none 2 := ⟨gt1 83 rfl rfl, in_J7, (by decide +kernel)⟩
theorem cs_J7_fill_53178 : CSt yJ7_fill_53178 cJ7_fill_53178 4 none 2 := ⟨cal_J7_fill_53178, gt1 82 rfl rfl⟩
theorem cal_X5_init : Cal yX5_init cX5_init 1 none 0 := ⟨gt1 157 rfl rfl, in_X5, (by decide +kernel)⟩
theorem ci_X5_init : CIt yX5_init cX5_init 1 0 := ⟨cal_X5_init, gt1 156 rfl rfl, rfl⟩
theorem cal_X1_init : Cal yX1_init cX1_init 4 none 2 := ⟨gt1 175 rfl rfl, in_X1, (by decide +kernel)⟩
theorem ci_X1_init : CIt yX1_init cX1_init 4 2 := ⟨cal_X1_init, gt1 174 rfl rfl, rfl⟩
theorem cal_X2_init : Cal yX2_init cX2_init 1 none 0 := ⟨gt1 182 rfl rfl, in_X2, (by decide +kernel)⟩
theorem ci_X2_init : CIt yX2_init cX2_init 1 0 := ⟨cal_X2_init, gt1 181 rfl rfl, rfl⟩
theorem cal_X7_init : Cal yX7_init cX7_init 3 none 2 := ⟨gt1 232 rfl rfl, in_X7, (by decide +kernel)⟩
theorem ci_X7_init : CIt yX7_init cX7_init 3 2 := ⟨cal_X7_init, gt1 231 rfl rfl, rfl⟩
theorem cal_X3_init : Cal yX3_init cX3_init 5 none 4 := ⟨gt2 23 rfl rfl, in_X3, (by decide +kernel)⟩
theorem ci_X3_init : CIt yX3_init cX3_init 5 4 := ⟨cal_X3_init, gt2 22 rfl rfl, rfl⟩
theorem cal_X4_init : Cal yX4_init cX4_init 2 none 0 := ⟨gt2 65 rfl rfl, in_X4, (by decide +kernel)⟩
theorem ci_X4_init : CIt yX4_init cX4_init 2 0 := ⟨cal_X4_init, gt2 64 rfl rfl, rfl⟩
theorem cal_X8_init : Cal yX8_init cX8_init 2 none 1 := ⟨gt2 91 rfl rfl, in_X8, (by decide +kernel)⟩
theorem ci_X8_init : CIt yX8_init cX8_init 2 1 := ⟨cal_X8_init, gt2 90 rfl rfl, rfl⟩
theorem cal_X0_init : Cal yX0_init cX0_init 1 none 0 := ⟨gt2 114 rfl rfl, in_X0, (by decide +kernel)⟩
theorem ci_X0_init : CIt yX0_init cX0_init 1 0 := ⟨cal_X0_init, gt2 113 rfl rfl, rfl⟩
theorem cal_X11_sign : Cal yX11_sign cX11_sign 2 (some .int) 1 := ⟨gt2 177 rfl rfl, in_X11, (by decide +kernel)⟩
theorem cv_X11_sign : CV yX11_sign cX11_sign 2 (some .int) 1 11 := ⟨cal_X11_sign, ⟨gt2 175 rfl rfl, gt2 176 rfl rfl⟩, RX11, TX11, 13, cl11, rfl⟩
theorem cal_X10_put : Cal yX10_put cX10_put 3 (some .boolean) 1 := ⟨gt2 181 rfl rfl, in_X10, (by decide +kernel)⟩
theorem cv_X10_put : CV yX10_put cX10_put 3 (some .boolean) 1 10 := ⟨cal_X10_put, ⟨gt2 179 rfl rfl, gt2 180 rfl rfl⟩, RX10, TX10, 5, cl10, rfl⟩
theorem cal_X11_end : Cal yX11_end cX11_end 2 (some .boolean) 1 := ⟨gt2 185 rfl rfl, in_X11, (by decide +kernel)⟩
theorem cv_X11_end : CV yX11_end cX11_end 2 (some .boolean) 1 11 := ⟨cal_X11_end, ⟨gt2 183 rfl rfl, gt2 184 rfl rfl⟩, RX11, TX11, 13, cl11, rfl⟩
theorem cal_X10_cut : Cal yX10_cut cX10_cut 2 (some .boolean) 1 := ⟨gt2 189 rfl rfl, in_X10, (by decide +kernel)⟩
theorem cv_X10_cut : CV yX10_cut cX10_cut 2 (some .boolean) 1 10 := ⟨cal_X10_cut, ⟨gt2 187 rfl rfl, gt2 188 rfl rfl⟩, RX10, TX10, 5, cl10, rfl⟩
theorem cal_X11_station : Cal yX11_station cX11_station 2 (some .int) 0 := ⟨gt2 193 rfl rfl, in_X11, (by decide +kernel)⟩
theorem cv_X11_station : CV yX11_station cX11_station 2 (some .int) 0 11 := ⟨cal_X11_station, ⟨gt2 191 rfl rfl, gt2 192 rfl rfl⟩, RX11, TX11, 13, cl11, rfl⟩
theorem cal_X9_read : Cal yX9_read cX9_read 3 (some .int) 1 := ⟨gt2 197 rfl rfl, in_X9, (by decide +kernel)⟩
theorem cv_X9_read : CV yX9_read cX9_read 3 (some .int) 1 9 := ⟨cal_X9_read, ⟨gt2 195 rfl rfl, gt2 196 rfl rfl⟩, RX9, TX9, 13, cl9, rfl⟩
theorem cal_X10_begin : Cal yX10_begin cX10_begin 2 none 1 := ⟨gt2 201 rfl rfl, in_X10, (by decide +kernel)⟩
theorem cv_X10_begin : CV yX10_begin cX10_begin 2 none 1 10 := ⟨cal_X10_begin, ⟨gt2 199 rfl rfl, gt2 200 rfl rfl⟩, RX10, TX10, 5, cl10, rfl⟩
theorem cal_J9_min_7cf53 : Cal yJ9_min_7cf53 cJ9_min_7cf53 2 (some .int) 2 := ⟨gt2 204 rfl rfl, in_J9, (by decide +kernel)⟩
theorem cs_J9_min_7cf53 : CSt yJ9_min_7cf53 cJ9_min_7cf53 2 (some .int) 2 := ⟨cal_J9_min_7cf53, gt2 203 rfl rfl⟩
theorem cal_X10_isEmpty : Cal yX10_isEmpty cX10_isEmpty 1 (some .boolean) 0 := ⟨gt2 208 rfl rfl, in_X10, (by decide +kernel)⟩
theorem cv_X10_isEmpty : CV yX10_isEmpty cX10_isEmpty 1 (some .boolean) 0 10 := ⟨cal_X10_isEmpty, ⟨gt2 206 rfl rfl, gt2 207 rfl rfl⟩, RX10, TX10, 5, cl10, rfl⟩
theorem cal_X9_readLine : Cal yX9_readLine cX9_readLine 2 (some .boolean) 1 := ⟨gt2 212 rfl rfl, in_X9, (by decide +kernel)⟩
theorem cv_X9_readLine : CV yX9_readLine cX9_readLine 2 (some .boolean) 1 9 := ⟨cal_X9_readLine, ⟨gt2 211 rfl rfl, gtp 0 rfl rfl⟩, RX9, TX9, 13, cl9, rfl⟩
theorem cal_X10_take : Cal yX10_take cX10_take 2 (some .boolean) 1 := ⟨gt2 216 rfl rfl, in_X10, (by decide +kernel)⟩
theorem cv_X10_take : CV yX10_take cX10_take 2 (some .boolean) 1 10 := ⟨cal_X10_take, ⟨gt2 214 rfl rfl, gt2 215 rfl rfl⟩, RX10, TX10, 5, cl10, rfl⟩
theorem cal_X10_peek : Cal yX10_peek cX10_peek 1 (some .int) 0 := ⟨gt2 220 rfl rfl, in_X10, (by decide +kernel)⟩
theorem cv_X10_peek : CV yX10_peek cX10_peek 1 (some .int) 0 10 := ⟨cal_X10_peek, ⟨gt2 218 rfl rfl, gt2 219 rfl rfl⟩, RX10, TX10, 5, cl10, rfl⟩
theorem cal_X10_skip : Cal yX10_skip cX10_skip 1 none 0 := ⟨gt2 224 rfl rfl, in_X10, (by decide +kernel)⟩
theorem cv_X10_skip : CV yX10_skip cX10_skip 1 none 0 10 := ⟨cal_X10_skip, ⟨gt2 222 rfl rfl, gt2 223 rfl rfl⟩, RX10, TX10, 5, cl10, rfl⟩
theorem cal_X9_readErrand : Cal yX9_readErrand cX9_readErrand 3 (some .boolean) 2 := ⟨gt2 228 rfl rfl, in_X9, (by decide +kernel)⟩
theorem cv_X9_readErrand : CV yX9_readErrand cX9_readErrand 3 (some .boolean) 2 9 := ⟨cal_X9_readErrand, ⟨gt2 227 rfl rfl, gtp 1 rfl rfl⟩, RX9, TX9, 13, cl9, rfl⟩
theorem cal_X10_digit : Cal yX10_digit cX10_digit 3 (some .int) 1 := ⟨gt2 232 rfl rfl, in_X10, (by decide +kernel)⟩
theorem cv_X10_digit : CV yX10_digit cX10_digit 3 (some .int) 1 10 := ⟨cal_X10_digit, ⟨gt2 230 rfl rfl, gt2 231 rfl rfl⟩, RX10, TX10, 5, cl10, rfl⟩
theorem cal_X10_number : Cal yX10_number cX10_number 5 (some .int) 1 := ⟨gt2 236 rfl rfl, in_X10, (by decide +kernel)⟩
theorem cv_X10_number : CV yX10_number cX10_number 5 (some .int) 1 10 := ⟨cal_X10_number, ⟨gt2 234 rfl rfl, gt2 235 rfl rfl⟩, RX10, TX10, 5, cl10, rfl⟩
theorem cal_X10_stepBack : Cal yX10_stepBack cX10_stepBack 1 none 0 := ⟨gt3 1 rfl rfl, in_X10, (by decide +kernel)⟩
theorem cv_X10_stepBack : CV yX10_stepBack cX10_stepBack 1 none 0 10 := ⟨cal_X10_stepBack, ⟨gt2 239 rfl rfl, gt3 0 rfl rfl⟩, RX10, TX10, 5, cl10, rfl⟩
theorem cal_X10_refusal : Cal yX10_refusal cX10_refusal 1 (some .int) 0 := ⟨gt3 5 rfl rfl, in_X10, (by decide +kernel)⟩
theorem cv_X10_refusal : CV yX10_refusal cX10_refusal 1 (some .int) 0 10 := ⟨cal_X10_refusal, ⟨gt3 3 rfl rfl, gt3 4 rfl rfl⟩, RX10, TX10, 5, cl10, rfl⟩
theorem cal_X10_atEnd : Cal yX10_atEnd cX10_atEnd 1 (some .boolean) 0 := ⟨gt3 9 rfl rfl, in_X10, (by decide +kernel)⟩
theorem cv_X10_atEnd : CV yX10_atEnd cX10_atEnd 1 (some .boolean) 0 10 := ⟨cal_X10_atEnd, ⟨gt3 7 rfl rfl, gt3 8 rfl rfl⟩, RX10, TX10, 5, cl10, rfl⟩
theorem cal_X10_hasMore : Cal yX10_hasMore cX10_hasMore 1 (some .boolean) 0 := ⟨gt3 13 rfl rfl, in_X10, (by decide +kernel)⟩
theorem cv_X10_hasMore : CV yX10_hasMore cX10_hasMore 1 (some .boolean) 0 10 := ⟨cal_X10_hasMore, ⟨gt3 11 rfl rfl, gt3 12 rfl rfl⟩, RX10, TX10, 5, cl10, rfl⟩
theorem cal_X4_drop : Cal yX4_drop cX4_drop 1 none 0 := ⟨gt3 17 rfl rfl, in_X4, (by decide +kernel)⟩
theorem cv_X4_drop : CV yX4_drop cX4_drop 1 none 0 4 := ⟨cal_X4_drop, ⟨gt3 15 rfl rfl, gt3 16 rfl rfl⟩, RX4, TX4, 5, cl4, rfl⟩
theorem cal_X11_wishes : Cal yX11_wishes cX11_wishes 3 (some .int) 1 := ⟨gt3 21 rfl rfl, in_X11, (by decide +kernel)⟩
theorem cv_X11_wishes : CV yX11_wishes cX11_wishes 3 (some .int) 1 11 := ⟨cal_X11_wishes, ⟨gt3 19 rfl rfl, gt3 20 rfl rfl⟩, RX11, TX11, 13, cl11, rfl⟩
theorem cal_X9_hasPerson : Cal yX9_hasPerson cX9_hasPerson 2 (some .boolean) 1 := ⟨gt3 26 rfl rfl, in_X9, (by decide +kernel)⟩
theorem cv_X9_hasPerson : CV yX9_hasPerson cX9_hasPerson 2 (some .boolean) 1 9 := ⟨cal_X9_hasPerson, ⟨gt3 24 rfl rfl, gt3 25 rfl rfl⟩, RX9, TX9, 13, cl9, rfl⟩
theorem cal_X10_rewind : Cal yX10_rewind cX10_rewind 1 none 0 := ⟨gt3 33 rfl rfl, in_X10, (by decide +kernel)⟩
theorem cv_X10_rewind : CV yX10_rewind cX10_rewind 1 none 0 10 := ⟨cal_X10_rewind, ⟨gt3 31 rfl rfl, gt3 32 rfl rfl⟩, RX10, TX10, 5, cl10, rfl⟩
theorem cal_X9_setWish : Cal yX9_setWish cX9_setWish 4 none 3 := ⟨gt3 37 rfl rfl, in_X9, (by decide +kernel)⟩
theorem cv_X9_setWish : CV yX9_setWish cX9_setWish 4 none 3 9 := ⟨cal_X9_setWish, ⟨gt3 35 rfl rfl, gt3 36 rfl rfl⟩, RX9, TX9, 13, cl9, rfl⟩
theorem cal_X9_hasErrand : Cal yX9_hasErrand cX9_hasErrand 2 (some .boolean) 1 := ⟨gt3 42 rfl rfl, in_X9, (by decide +kernel)⟩
theorem cv_X9_hasErrand : CV yX9_hasErrand cX9_hasErrand 2 (some .boolean) 1 9 := ⟨cal_X9_hasErrand, ⟨gt3 40 rfl rfl, gt3 41 rfl rfl⟩, RX9, TX9, 13, cl9, rfl⟩
theorem cal_X11_rule : Cal yX11_rule cX11_rule 1 (some .int) 0 := ⟨gt3 46 rfl rfl, in_X11, (by decide +kernel)⟩
theorem cv_X11_rule : CV yX11_rule cX11_rule 1 (some .int) 0 11 := ⟨cal_X11_rule, ⟨gt3 44 rfl rfl, gt3 45 rfl rfl⟩, RX11, TX11, 13, cl11, rfl⟩
theorem cal_X7_read : Cal yX7_read cX7_read 2 (some .int) 1 := ⟨gt3 50 rfl rfl, in_X7, (by decide +kernel)⟩
theorem cv_X7_read : CV yX7_read cX7_read 2 (some .int) 1 7 := ⟨cal_X7_read, ⟨gt3 48 rfl rfl, gt3 49 rfl rfl⟩, RX7, TX7, 8, cl7, rfl⟩
theorem cal_X7_readComparison : Cal yX7_readComparison cX7_readComparison 4 (some .boolean) 2 := ⟨gt3 56 rfl rfl, in_X7, (by decide +kernel)⟩
theorem cv_X7_readComparison : CV yX7_readComparison cX7_readComparison 4 (some .boolean) 2 7 := ⟨cal_X7_readComparison, ⟨gt3 55 rfl rfl, gtp 2 rfl rfl⟩, RX7, TX7, 8, cl7, rfl⟩
theorem cal_X7_readSum : Cal yX7_readSum cX7_readSum 5 (some .boolean) 2 := ⟨gt3 60 rfl rfl, in_X7, (by decide +kernel)⟩
theorem cv_X7_readSum : CV yX7_readSum cX7_readSum 5 (some .boolean) 2 7 := ⟨cal_X7_readSum, ⟨gt3 59 rfl rfl, gtp 3 rfl rfl⟩, RX7, TX7, 8, cl7, rfl⟩
theorem cal_X7_readProduct : Cal yX7_readProduct cX7_readProduct 5 (some .boolean) 2 := ⟨gt3 64 rfl rfl, in_X7, (by decide +kernel)⟩
theorem cv_X7_readProduct : CV yX7_readProduct cX7_readProduct 5 (some .boolean) 2 7 := ⟨cal_X7_readProduct, ⟨gt3 63 rfl rfl, gtp 4 rfl rfl⟩, RX7, TX7, 8, cl7, rfl⟩
theorem cal_X7_readThing : Cal yX7_readThing cX7_readThing 6 (some .boolean) 2 := ⟨gt3 68 rfl rfl, in_X7, (by decide +kernel)⟩
theorem cv_X7_readThing : CV yX7_readThing cX7_readThing 6 (some .boolean) 2 7 := ⟨cal_X7_readThing, ⟨gt3 67 rfl rfl, gtp 5 rfl rfl⟩, RX7, TX7, 8, cl7, rfl⟩
theorem cal_X7_emit : Cal yX7_emit cX7_emit 2 none 1 := ⟨gt3 74 rfl rfl, in_X7, (by decide +kernel)⟩
theorem cv_X7_emit : CV yX7_emit cX7_emit 2 none 1 7 := ⟨cal_X7_emit, ⟨gt3 73 rfl rfl, gtp 6 rfl rfl⟩, RX7, TX7, 8, cl7, rfl⟩
theorem cal_J0_indexOf_0f7a4 : Cal yJ0_indexOf_0f7a4 cJ0_indexOf_0f7a4 2 (some .int) 1 := ⟨gt3 81 rfl rfl, in_J0, (by decide +kernel)⟩
theorem cal_J0_indexOf_7cf53 : Cal yJ0_indexOf_7cf53 cJ0_indexOf_7cf53 3 (some .int) 2 := ⟨gt3 85 rfl rfl, in_J0, (by decide +kernel)⟩
theorem cal_J0_isLatin1_aae02 : Cal yJ0_isLatin1_aae02 cJ0_isLatin1_aae02 1 (some .boolean) 0 := ⟨gt3 89 rfl rfl, in_J0, (by decide +kernel)⟩
theorem cal_J0_length_8abf5 : Cal yJ0_length_8abf5 cJ0_length_8abf5 1 (some .int) 0 := ⟨gt3 95 rfl rfl, in_J0, (by decide +kernel)⟩
theorem cal_J0_coder_7d493 : Cal yJ0_coder_7d493 cJ0_coder_7d493 1 (some .byte) 0 := ⟨gt3 99 rfl rfl, in_J0, (by decide +kernel)⟩
theorem cal_J1_indexOf_4cfef : Cal yJ1_indexOf_4cfef cJ1_indexOf_4cfef 4 (some .int) 4 := ⟨gt3 102 rfl rfl, in_J1, (by decide +kernel)⟩
theorem cs_J1_indexOf_4cfef : CSt yJ1_indexOf_4cfef cJ1_indexOf_4cfef 4 (some .int) 4 := ⟨cal_J1_indexOf_4cfef, gt3 101 rfl rfl⟩
theorem cal_J1_canEncode_9a6ad : Cal yJ1_canEncode_9a6ad cJ1_canEncode_9a6ad 1 (some .boolean) 1 := ⟨gt3 105 rfl rfl, in_J1, (by decide +kernel)⟩
theorem cs_J1_canEncode_9a6ad : CSt yJ1_canEncode_9a6ad cJ1_canEncode_9a6ad 1 (some .boolean) 1 := ⟨cal_J1_canEncode_9a6ad, gt3 104 rfl rfl⟩
theorem cal_J9_max_7cf53 : Cal yJ9_max_7cf53 cJ9_max_7cf53 2 (some .int) 2 := ⟨gt3 108 rfl rfl, in_J9, (by decide +kernel)⟩
theorem cs_J9_max_7cf53 : CSt yJ9_max_7cf53 cJ9_max_7cf53 2 (some .int) 2 := ⟨cal_J9_max_7cf53, gt3 107 rfl rfl⟩
theorem cal_J1_indexOfChar_4cfef : Cal yJ1_indexOfChar_4cfef cJ1_indexOfChar_4cfef 6 (some .int) 4 := ⟨gt3 112 rfl rfl, in_J1, (by decide +kernel)⟩
theorem cs_J1_indexOfChar_4cfef : CSt yJ1_indexOfChar_4cfef cJ1_indexOfChar_4cfef 6 (some .int) 4 := ⟨cal_J1_indexOfChar_4cfef, gt3 111 rfl rfl⟩
theorem cal_J2_indexOf_4cfef : Cal yJ2_indexOf_4cfef cJ2_indexOf_4cfef 4 (some .int) 4 := ⟨gt3 115 rfl rfl, in_J2, (by decide +kernel)⟩
theorem cs_J2_indexOf_4cfef : CSt yJ2_indexOf_4cfef cJ2_indexOf_4cfef 4 (some .int) 4 := ⟨cal_J2_indexOf_4cfef, gt3 114 rfl rfl⟩
theorem cal_J2_indexOfChar_4cfef : Cal yJ2_indexOfChar_4cfef cJ2_indexOfChar_4cfef 4 (some .int) 4 := ⟨gt3 121 rfl rfl, in_J2, (by decide +kernel)⟩
theorem cs_J2_indexOfChar_4cfef : CSt yJ2_indexOfChar_4cfef cJ2_indexOfChar_4cfef 4 (some .int) 4 := ⟨cal_J2_indexOfChar_4cfef, gt3 120 rfl rfl⟩
theorem cal_J2_checkBoundsBeginEnd_d044e : Cal yJ2_checkBoundsBeginEnd_d044e cJ2_checkBoundsBeginEnd_d044e 3 none 3 := ⟨gt3 124 rfl rfl, in_J2, (by decide +kernel)⟩
theorem cs_J2_checkBoundsBeginEnd_d044e : CSt yJ2_checkBoundsBeginEnd_d044e cJ2_checkBoundsBeginEnd_d044e 3 none 3 := ⟨cal_J2_checkBoundsBeginEnd_d044e, gt3 123 rfl rfl⟩
theorem cal_J2_length_9d52b : Cal yJ2_length_9d52b cJ2_length_9d52b 1 (some .int) 1 := ⟨gt3 127 rfl rfl, in_J2, (by decide +kernel)⟩
theorem cs_J2_length_9d52b : CSt yJ2_length_9d52b cJ2_length_9d52b 1 (some .int) 1 := ⟨cal_J2_length_9d52b, gt3 126 rfl rfl⟩
theorem cal_J0_checkBoundsBeginEnd_23922 : Cal yJ0_checkBoundsBeginEnd_23922 cJ0_checkBoundsBeginEnd_23922 3 none 3 := ⟨gt3 130 rfl rfl, in_J0, (by decide +kernel)⟩
theorem cs_J0_checkBoundsBeginEnd_23922 : CSt yJ0_checkBoundsBeginEnd_23922 cJ0_checkBoundsBeginEnd_23922 3 none 3 := ⟨cal_J0_checkBoundsBeginEnd_23922, gt3 129 rfl rfl⟩
theorem cal_J3_checkFromToIndex_8c36e : Cal yJ3_checkFromToIndex_8c36e cJ3_checkFromToIndex_8c36e 4 (some .int) 4 := ⟨gt3 135 rfl rfl, in_J3, (by decide +kernel)⟩
theorem cs_J3_checkFromToIndex_8c36e : CSt yJ3_checkFromToIndex_8c36e cJ3_checkFromToIndex_8c36e 4 (some .int) 4 := ⟨cal_J3_checkFromToIndex_8c36e, gt3 134 rfl rfl⟩
theorem cal_J2_indexOfCharUnsafe_4cfef : Cal yJ2_indexOfCharUnsafe_4cfef cJ2_indexOfCharUnsafe_4cfef 5 (some .int) 4 := ⟨gt3 138 rfl rfl, in_J2, (by decide +kernel)⟩
theorem cs_J2_indexOfCharUnsafe_4cfef : CSt yJ2_indexOfCharUnsafe_4cfef cJ2_indexOfCharUnsafe_4cfef 5 (some .int) 4 := ⟨cal_J2_indexOfCharUnsafe_4cfef, gt3 137 rfl rfl⟩
theorem cal_J2_getChar_3b067 : Cal yJ2_getChar_3b067 cJ2_getChar_3b067 2 (some .char) 2 := ⟨gt3 141 rfl rfl, in_J2, (by decide +kernel)⟩
theorem cs_J2_getChar_3b067 : CSt yJ2_getChar_3b067 cJ2_getChar_3b067 2 (some .char) 2 := ⟨cal_J2_getChar_3b067, gt3 140 rfl rfl⟩
theorem cal_J2_indexOfSupplementary_4cfef : Cal yJ2_indexOfSupplementary_4cfef cJ2_indexOfSupplementary_4cfef 7 (some .int) 4 := ⟨gt3 150 rfl rfl, in_J2, (by decide +kernel)⟩
theorem cs_J2_indexOfSupplementary_4cfef : CSt yJ2_indexOfSupplementary_4cfef cJ2_indexOfSupplementary_4cfef 7 (some .int) 4 := ⟨cal_J2_indexOfSupplementary_4cfef, gt3 149 rfl rfl⟩
theorem cal_J11_isValidCodePoint_9a6ad : Cal yJ11_isValidCodePoint_9a6ad cJ11_isValidCodePoint_9a6ad 2 (some .boolean) 1 := ⟨gt3 153 rfl rfl, in_J11, (by decide +kernel)⟩
theorem cs_J11_isValidCodePoint_9a6ad : CSt yJ11_isValidCodePoint_9a6ad cJ11_isValidCodePoint_9a6ad 2 (some .boolean) 1 := ⟨cal_J11_isValidCodePoint_9a6ad, gt3 152 rfl rfl⟩
theorem cal_J11_highSurrogate_5068e : Cal yJ11_highSurrogate_5068e cJ11_highSurrogate_5068e 1 (some .char) 1 := ⟨gt3 156 rfl rfl, in_J11, (by decide +kernel)⟩
theorem cs_J11_highSurrogate_5068e : CSt yJ11_highSurrogate_5068e cJ11_highSurrogate_5068e 1 (some .char) 1 := ⟨cal_J11_highSurrogate_5068e, gt3 155 rfl rfl⟩
theorem cal_J11_lowSurrogate_5068e : Cal yJ11_lowSurrogate_5068e cJ11_lowSurrogate_5068e 1 (some .char) 1 := ⟨gt3 160 rfl rfl, in_J11, (by decide +kernel)⟩
theorem cs_J11_lowSurrogate_5068e : CSt yJ11_lowSurrogate_5068e cJ11_lowSurrogate_5068e 1 (some .char) 1 := ⟨cal_J11_lowSurrogate_5068e, gt3 159 rfl rfl⟩
theorem cal_X7_operator : Cal yX7_operator cX7_operator 1 (some .int) 1 := ⟨gt3 165 rfl rfl, in_X7, (by decide +kernel)⟩
theorem cs_X7_operator : CSt yX7_operator cX7_operator 1 (some .int) 1 := ⟨cal_X7_operator, gt3 164 rfl rfl⟩
theorem cal_X11_plan : Cal yX11_plan cX11_plan 1 (some .int) 0 := ⟨gt3 175 rfl rfl, in_X11, (by decide +kernel)⟩
theorem cv_X11_plan : CV yX11_plan cX11_plan 1 (some .int) 0 11 := ⟨cal_X11_plan, ⟨gt3 173 rfl rfl, gt3 174 rfl rfl⟩, RX11, TX11, 13, cl11, rfl⟩
theorem cal_X11_readTrips : Cal yX11_readTrips cX11_readTrips 5 (some .boolean) 0 := ⟨gt3 180 rfl rfl, in_X11, (by decide +kernel)⟩
theorem cv_X11_readTrips : CV yX11_readTrips cX11_readTrips 5 (some .boolean) 0 11 := ⟨cal_X11_readTrips, ⟨gt3 179 rfl rfl, gtp 7 rfl rfl⟩, RX11, TX11, 13, cl11, rfl⟩
theorem cal_X5_add : Cal yX5_add cX5_add 4 none 3 := ⟨gt3 189 rfl rfl, in_X5, (by decide +kernel)⟩
theorem cv_X5_add : CV yX5_add cX5_add 4 none 3 5 := ⟨cal_X5_add, ⟨gt3 187 rfl rfl, gt3 188 rfl rfl⟩, RX5, TX5, 2, cl5, rfl⟩
theorem cal_X4_push : Cal yX4_push cX4_push 2 none 1 := ⟨gt3 194 rfl rfl, in_X4, (by decide +kernel)⟩
theorem cv_X4_push : CV yX4_push cX4_push 2 none 1 4 := ⟨cal_X4_push, ⟨gt3 192 rfl rfl, gt3 193 rfl rfl⟩, RX4, TX4, 5, cl4, rfl⟩
theorem cal_X4_forgetOldest : Cal yX4_forgetOldest cX4_forgetOldest 3 none 0 := ⟨gt3 198 rfl rfl, in_X4, (by decide +kernel)⟩
theorem cv_X4_forgetOldest : CV yX4_forgetOldest cX4_forgetOldest 3 none 0 4 := ⟨cal_X4_forgetOldest, ⟨gt3 197 rfl rfl, gtp 8 rfl rfl⟩, RX4, TX4, 5, cl4, rfl⟩
theorem cal_X5_copy : Cal yX5_copy cX5_copy 2 none 1 := ⟨gt3 202 rfl rfl, in_X5, (by decide +kernel)⟩
theorem cv_X5_copy : CV yX5_copy cX5_copy 2 none 1 5 := ⟨cal_X5_copy, ⟨gt3 200 rfl rfl, gt3 201 rfl rfl⟩, RX5, TX5, 2, cl5, rfl⟩
theorem cal_X11_wish : Cal yX11_wish cX11_wish 5 (some .int) 3 := ⟨gt3 208 rfl rfl, in_X11, (by decide +kernel)⟩
theorem cv_X11_wish : CV yX11_wish cX11_wish 5 (some .int) 3 11 := ⟨cal_X11_wish, ⟨gt3 206 rfl rfl, gt3 207 rfl rfl⟩, RX11, TX11, 13, cl11, rfl⟩
theorem cal_X9_getWish : Cal yX9_getWish cX9_getWish 3 (some .int) 2 := ⟨gt3 212 rfl rfl, in_X9, (by decide +kernel)⟩
theorem cv_X9_getWish : CV yX9_getWish cX9_getWish 3 (some .int) 2 9 := ⟨cal_X9_getWish, ⟨gt3 210 rfl rfl, gt3 211 rfl rfl⟩, RX9, TX9, 13, cl9, rfl⟩
theorem cal_X11_train : Cal yX11_train cX11_train 3 (some .int) 1 := ⟨gt3 216 rfl rfl, in_X11, (by decide +kernel)⟩
theorem cv_X11_train : CV yX11_train cX11_train 3 (some .int) 1 11 := ⟨cal_X11_train, ⟨gt3 214 rfl rfl, gt3 215 rfl rfl⟩, RX11, TX11, 13, cl11, rfl⟩
theorem cal_X11_sheet : Cal yX11_sheet cX11_sheet 5 (some .int) 4 := ⟨gt3 220 rfl rfl, in_X11, (by decide +kernel)⟩
theorem cv_X11_sheet : CV yX11_sheet cX11_sheet 5 (some .int) 4 11 := ⟨cal_X11_sheet, ⟨gt3 218 rfl rfl, gt3 219 rfl rfl⟩, RX11, TX11, 13, cl11, rfl⟩
theorem cal_X9_setLasts : Cal yX9_setLasts cX9_setLasts 8 (some .int) 4 := ⟨gt3 224 rfl rfl, in_X9, (by decide +kernel)⟩
theorem cv_X9_setLasts : CV yX9_setLasts cX9_setLasts 8 (some .int) 4 9 := ⟨cal_X9_setLasts, ⟨gt3 222 rfl rfl, gt3 223 rfl rfl⟩, RX9, TX9, 13, cl9, rfl⟩
theorem cal_X11_may : Cal yX11_may cX11_may 4 (some .int) 3 := ⟨gt3 230 rfl rfl, in_X11, (by decide +kernel)⟩
theorem cv_X11_may : CV yX11_may cX11_may 4 (some .int) 3 11 := ⟨cal_X11_may, ⟨gt3 228 rfl rfl, gt3 229 rfl rfl⟩, RX11, TX11, 13, cl11, rfl⟩
theorem cal_X11_canBeAsked : Cal yX11_canBeAsked cX11_canBeAsked 4 (some .boolean) 3 := ⟨gt3 234 rfl rfl, in_X11, (by decide +kernel)⟩
theorem cv_X11_canBeAsked : CV yX11_canBeAsked cX11_canBeAsked 4 (some .boolean) 3 11 := ⟨cal_X11_canBeAsked, ⟨gt3 233 rfl rfl, gtp 9 rfl rfl⟩, RX11, TX11, 13, cl11, rfl⟩
theorem cal_X1_look : Cal yX1_look cX1_look 5 none 0 := ⟨gt3 238 rfl rfl, in_X1, (by decide +kernel)⟩
theorem cv_X1_look : CV yX1_look cX1_look 5 none 0 1 := ⟨cal_X1_look, ⟨gt3 236 rfl rfl, gt3 237 rfl rfl⟩, RX1, TX1, 10, cl1, rfl⟩
theorem cal_X2_clear : Cal yX2_clear cX2_clear 1 none 0 := ⟨gt4 2 rfl rfl, in_X2, (by decide +kernel)⟩
theorem cv_X2_clear : CV yX2_clear cX2_clear 1 none 0 2 := ⟨cal_X2_clear, ⟨gt4 0 rfl rfl, gt4 1 rfl rfl⟩, RX2, TX2, 2, cl2, rfl⟩
theorem cal_X5_who : Cal yX5_who cX5_who 2 (some .int) 1 := ⟨gt4 6 rfl rfl, in_X5, (by decide +kernel)⟩
theorem cv_X5_who : CV yX5_who cX5_who 2 (some .int) 1 5 := ⟨cal_X5_who, ⟨gt4 4 rfl rfl, gt4 5 rfl rfl⟩, RX5, TX5, 2, cl5, rfl⟩
theorem cal_X5_what : Cal yX5_what cX5_what 2 (some .int) 1 := ⟨gt4 10 rfl rfl, in_X5, (by decide +kernel)⟩
theorem cv_X5_what : CV yX5_what cX5_what 2 (some .int) 1 5 := ⟨cal_X5_what, ⟨gt4 8 rfl rfl, gt4 9 rfl rfl⟩, RX5, TX5, 2, cl5, rfl⟩
theorem cal_X5_first : Cal yX5_first cX5_first 2 (some .int) 1 := ⟨gt4 14 rfl rfl, in_X5, (by decide +kernel)⟩
theorem cv_X5_first : CV yX5_first cX5_first 2 (some .int) 1 5 := ⟨cal_X5_first, ⟨gt4 12 rfl rfl, gt4 13 rfl rfl⟩, RX5, TX5, 2, cl5, rfl⟩
theorem cal_X9_length : Cal yX9_length cX9_length 2 (some .int) 1 := ⟨gt4 18 rfl rfl, in_X9, (by decide +kernel)⟩
theorem cv_X9_length : CV yX9_length cX9_length 2 (some .int) 1 9 := ⟨cal_X9_length, ⟨gt4 16 rfl rfl, gt4 17 rfl rfl⟩, RX9, TX9, 13, cl9, rfl⟩
theorem cal_X2_add : Cal yX2_add cX2_add 5 none 2 := ⟨gt4 22 rfl rfl, in_X2, (by decide +kernel)⟩
theorem cv_X2_add : CV yX2_add cX2_add 5 none 2 2 := ⟨cal_X2_add, ⟨gt4 20 rfl rfl, gt4 21 rfl rfl⟩, RX2, TX2, 2, cl2, rfl⟩
theorem cal_X2_join : Cal yX2_join cX2_join 2 none 1 := ⟨gt4 26 rfl rfl, in_X2, (by decide +kernel)⟩
theorem cv_X2_join : CV yX2_join cX2_join 2 none 1 2 := ⟨cal_X2_join, ⟨gt4 24 rfl rfl, gt4 25 rfl rfl⟩, RX2, TX2, 2, cl2, rfl⟩
theorem cal_X1_lookAtBags : Cal yX1_lookAtBags cX1_lookAtBags 3 none 0 := ⟨gt4 30 rfl rfl, in_X1, (by decide +kernel)⟩
theorem cv_X1_lookAtBags : CV yX1_lookAtBags cX1_lookAtBags 3 none 0 1 := ⟨cal_X1_lookAtBags, ⟨gt4 29 rfl rfl, gtp 10 rfl rfl⟩, RX1, TX1, 10, cl1, rfl⟩
theorem cal_X2_fillTo : Cal yX2_fillTo cX2_fillTo 2 none 1 := ⟨gt4 34 rfl rfl, in_X2, (by decide +kernel)⟩
theorem cv_X2_fillTo : CV yX2_fillTo cX2_fillTo 2 none 1 2 := ⟨cal_X2_fillTo, ⟨gt4 32 rfl rfl, gt4 33 rfl rfl⟩, RX2, TX2, 2, cl2, rfl⟩
theorem cal_X2_without : Cal yX2_without cX2_without 2 none 1 := ⟨gt4 39 rfl rfl, in_X2, (by decide +kernel)⟩
theorem cv_X2_without : CV yX2_without cX2_without 2 none 1 2 := ⟨cal_X2_without, ⟨gt4 37 rfl rfl, gt4 38 rfl rfl⟩, RX2, TX2, 2, cl2, rfl⟩
theorem cal_X2_keepOnly : Cal yX2_keepOnly cX2_keepOnly 2 none 1 := ⟨gt4 43 rfl rfl, in_X2, (by decide +kernel)⟩
theorem cv_X2_keepOnly : CV yX2_keepOnly cX2_keepOnly 2 none 1 2 := ⟨cal_X2_keepOnly, ⟨gt4 41 rfl rfl, gt4 42 rfl rfl⟩, RX2, TX2, 2, cl2, rfl⟩
theorem cal_X1_hindrance : Cal yX1_hindrance cX1_hindrance 4 (some .int) 3 := ⟨gt4 47 rfl rfl, in_X1, (by decide +kernel)⟩
theorem cv_X1_hindrance : CV yX1_hindrance cX1_hindrance 4 (some .int) 3 1 := ⟨cal_X1_hindrance, ⟨gt4 45 rfl rfl, gt4 46 rfl rfl⟩, RX1, TX1, 10, cl1, rfl⟩
theorem cal_X9_endsInTime : Cal yX9_endsInTime cX9_endsInTime 3 (some .boolean) 2 := ⟨gt4 51 rfl rfl, in_X9, (by decide +kernel)⟩
theorem cv_X9_endsInTime : CV yX9_endsInTime cX9_endsInTime 3 (some .boolean) 2 9 := ⟨cal_X9_endsInTime, ⟨gt4 49 rfl rfl, gt4 50 rfl rfl⟩, RX9, TX9, 13, cl9, rfl⟩
theorem cal_X9_isOpen : Cal yX9_isOpen cX9_isOpen 3 (some .boolean) 2 := ⟨gt4 56 rfl rfl, in_X9, (by decide +kernel)⟩
theorem cv_X9_isOpen : CV yX9_isOpen cX9_isOpen 3 (some .boolean) 2 9 := ⟨cal_X9_isOpen, ⟨gt4 54 rfl rfl, gt4 55 rfl rfl⟩, RX9, TX9, 13, cl9, rfl⟩
theorem cal_X2_part : Cal yX2_part cX2_part 5 (some .long) 2 := ⟨gt4 60 rfl rfl, in_X2, (by decide +kernel)⟩
theorem cv_X2_part : CV yX2_part cX2_part 5 (some .long) 2 2 := ⟨cal_X2_part, ⟨gt4 58 rfl rfl, gt4 59 rfl rfl⟩, RX2, TX2, 2, cl2, rfl⟩
theorem cal_X1_thingIsOut : Cal yX1_thingIsOut cX1_thingIsOut 7 (some .boolean) 2 := ⟨gt4 64 rfl rfl, in_X1, (by decide +kernel)⟩
theorem cv_X1_thingIsOut : CV yX1_thingIsOut cX1_thingIsOut 7 (some .boolean) 2 1 := ⟨cal_X1_thingIsOut, ⟨gt4 63 rfl rfl, gtp 11 rfl rfl⟩, RX1, TX1, 10, cl1, rfl⟩
theorem cal_X1_back : Cal yX1_back cX1_back 2 (some .int) 1 := ⟨gt4 68 rfl rfl, in_X1, (by decide +kernel)⟩
theorem cv_X1_back : CV yX1_back cX1_back 2 (some .int) 1 1 := ⟨cal_X1_back, ⟨gt4 66 rfl rfl, gt4 67 rfl rfl⟩, RX1, TX1, 10, cl1, rfl⟩
theorem cal_X5_goTogether : Cal yX5_goTogether cX5_goTogether 4 (some .boolean) 3 := ⟨gt4 72 rfl rfl, in_X5, (by decide +kernel)⟩
theorem cv_X5_goTogether : CV yX5_goTogether cX5_goTogether 4 (some .boolean) 3 5 := ⟨cal_X5_goTogether, ⟨gt4 70 rfl rfl, gt4 71 rfl rfl⟩, RX5, TX5, 2, cl5, rfl⟩
theorem cal_X5_has : Cal yX5_has cX5_has 2 (some .boolean) 1 := ⟨gt4 76 rfl rfl, in_X5, (by decide +kernel)⟩
theorem cv_X5_has : CV yX5_has cX5_has 2 (some .boolean) 1 5 := ⟨cal_X5_has, ⟨gt4 74 rfl rfl, gt4 75 rfl rfl⟩, RX5, TX5, 2, cl5, rfl⟩
theorem cal_X1_hasCompany : Cal yX1_hasCompany cX1_hasCompany 5 (some .boolean) 3 := ⟨gt4 80 rfl rfl, in_X1, (by decide +kernel)⟩
theorem cv_X1_hasCompany : CV yX1_hasCompany cX1_hasCompany 5 (some .boolean) 3 1 := ⟨cal_X1_hasCompany, ⟨gt4 79 rfl rfl, gtp 12 rfl rfl⟩, RX1, TX1, 10, cl1, rfl⟩
theorem cal_X1_wouldBeMissed : Cal yX1_wouldBeMissed cX1_wouldBeMissed 6 (some .boolean) 3 := ⟨gt4 84 rfl rfl, in_X1, (by decide +kernel)⟩
theorem cv_X1_wouldBeMissed : CV yX1_wouldBeMissed cX1_wouldBeMissed 6 (some .boolean) 3 1 := ⟨cal_X1_wouldBeMissed, ⟨gt4 83 rfl rfl, gtp 13 rfl rfl⟩, RX1, TX1, 10, cl1, rfl⟩
theorem cal_X11_go : Cal yX11_go cX11_go 4 (some .int) 3 := ⟨gt4 89 rfl rfl, in_X11, (by decide +kernel)⟩
theorem cv_X11_go : CV yX11_go cX11_go 4 (some .int) 3 11 := ⟨cal_X11_go, ⟨gt4 87 rfl rfl, gt4 88 rfl rfl⟩, RX11, TX11, 13, cl11, rfl⟩
theorem cal_X11_putIn : Cal yX11_putIn cX11_putIn 4 (some .int) 3 := ⟨gt4 93 rfl rfl, in_X11, (by decide +kernel)⟩
theorem cv_X11_putIn : CV yX11_putIn cX11_putIn 4 (some .int) 3 11 := ⟨cal_X11_putIn, ⟨gt4 92 rfl rfl, gtp 14 rfl rfl⟩, RX11, TX11, 13, cl11, rfl⟩
theorem cal_X11_remember : Cal yX11_remember cX11_remember 2 (some .int) 1 := ⟨gt4 97 rfl rfl, in_X11, (by decide +kernel)⟩
theorem cv_X11_remember : CV yX11_remember cX11_remember 2 (some .int) 1 11 := ⟨cal_X11_remember, ⟨gt4 96 rfl rfl, gtp 15 rfl rfl⟩, RX11, TX11, 13, cl11, rfl⟩
theorem cal_X11_pair : Cal yX11_pair cX11_pair 6 (some .int) 4 := ⟨gt4 101 rfl rfl, in_X11, (by decide +kernel)⟩
theorem cv_X11_pair : CV yX11_pair cX11_pair 6 (some .int) 4 11 := ⟨cal_X11_pair, ⟨gt4 99 rfl rfl, gt4 100 rfl rfl⟩, RX11, TX11, 13, cl11, rfl⟩
theorem cal_X1_brokenBy : Cal yX1_brokenBy cX1_brokenBy 5 (some .int) 1 := ⟨gt4 105 rfl rfl, in_X1, (by decide +kernel)⟩
theorem cv_X1_brokenBy : CV yX1_brokenBy cX1_brokenBy 5 (some .int) 1 1 := ⟨cal_X1_brokenBy, ⟨gt4 103 rfl rfl, gt4 104 rfl rfl⟩, RX1, TX1, 10, cl1, rfl⟩
theorem cal_X1_isAwayByAnother : Cal yX1_isAwayByAnother cX1_isAwayByAnother 4 (some .boolean) 1 := ⟨gt4 109 rfl rfl, in_X1, (by decide +kernel)⟩
theorem cv_X1_isAwayByAnother : CV yX1_isAwayByAnother cX1_isAwayByAnother 4 (some .boolean) 1 1 := ⟨cal_X1_isAwayByAnother, ⟨gt4 108 rfl rfl, gtp 16 rfl rfl⟩, RX1, TX1, 10, cl1, rfl⟩
theorem cal_X2_hasMoreThan : Cal yX2_hasMoreThan cX2_hasMoreThan 2 (some .boolean) 1 := ⟨gt4 113 rfl rfl, in_X2, (by decide +kernel)⟩
theorem cv_X2_hasMoreThan : CV yX2_hasMoreThan cX2_hasMoreThan 2 (some .boolean) 1 2 := ⟨cal_X2_hasMoreThan, ⟨gt4 111 rfl rfl, gt4 112 rfl rfl⟩, RX2, TX2, 2, cl2, rfl⟩
theorem cal_X11_strike : Cal yX11_strike cX11_strike 2 (some .int) 1 := ⟨gt4 117 rfl rfl, in_X11, (by decide +kernel)⟩
theorem cv_X11_strike : CV yX11_strike cX11_strike 2 (some .int) 1 11 := ⟨cal_X11_strike, ⟨gt4 115 rfl rfl, gt4 116 rfl rfl⟩, RX11, TX11, 13, cl11, rfl⟩
theorem cal_X11_takeOut : Cal yX11_takeOut cX11_takeOut 2 (some .int) 1 := ⟨gt4 121 rfl rfl, in_X11, (by decide +kernel)⟩
theorem cv_X11_takeOut : CV yX11_takeOut cX11_takeOut 2 (some .int) 1 11 := ⟨cal_X11_takeOut, ⟨gt4 120 rfl rfl, gtp 17 rfl rfl⟩, RX11, TX11, 13, cl11, rfl⟩
theorem cal_X5_remove : Cal yX5_remove cX5_remove 2 none 1 := ⟨gt4 126 rfl rfl, in_X5, (by decide +kernel)⟩
theorem cv_X5_remove : CV yX5_remove cX5_remove 2 none 1 5 := ⟨cal_X5_remove, ⟨gt4 124 rfl rfl, gt4 125 rfl rfl⟩, RX5, TX5, 2, cl5, rfl⟩
theorem cal_X11_shift : Cal yX11_shift cX11_shift 3 (some .int) 2 := ⟨gt4 130 rfl rfl, in_X11, (by decide +kernel)⟩
theorem cv_X11_shift : CV yX11_shift cX11_shift 3 (some .int) 2 11 := ⟨cal_X11_shift, ⟨gt4 128 rfl rfl, gt4 129 rfl rfl⟩, RX11, TX11, 13, cl11, rfl⟩
theorem cal_X11_moveBy : Cal yX11_moveBy cX11_moveBy 5 (some .int) 2 := ⟨gt4 134 rfl rfl, in_X11, (by decide +kernel)⟩
theorem cv_X11_moveBy : CV yX11_moveBy cX11_moveBy 5 (some .int) 2 11 := ⟨cal_X11_moveBy, ⟨gt4 133 rfl rfl, gtp 18 rfl rfl⟩, RX11, TX11, 13, cl11, rfl⟩
theorem cal_X5_begin : Cal yX5_begin cX5_begin 3 none 2 := ⟨gt4 139 rfl rfl, in_X5, (by decide +kernel)⟩
theorem cv_X5_begin : CV yX5_begin cX5_begin 3 none 2 5 := ⟨cal_X5_begin, ⟨gt4 137 rfl rfl, gt4 138 rfl rfl⟩, RX5, TX5, 2, cl5, rfl⟩
theorem cal_X11_afternoon : Cal yX11_afternoon cX11_afternoon 4 (some .int) 0 := ⟨gt4 143 rfl rfl, in_X11, (by decide +kernel)⟩
theorem cv_X11_afternoon : CV yX11_afternoon cX11_afternoon 4 (some .int) 0 11 := ⟨cal_X11_afternoon, ⟨gt4 141 rfl rfl, gt4 142 rfl rfl⟩, RX11, TX11, 13, cl11, rfl⟩
theorem cal_X11_readActs : Cal yX11_readActs cX11_readActs 2 (some .boolean) 0 := ⟨gt4 147 rfl rfl, in_X11, (by decide +kernel)⟩
theorem cv_X11_readActs : CV yX11_readActs cX11_readActs 2 (some .boolean) 0 11 := ⟨cal_X11_readActs, ⟨gt4 146 rfl rfl, gtp 19 rfl rfl⟩, RX11, TX11, 13, cl11, rfl⟩
theorem cal_X11_readAct : Cal yX11_readAct cX11_readAct 1 (some .boolean) 0 := ⟨gt4 151 rfl rfl, in_X11, (by decide +kernel)⟩
theorem cv_X11_readAct : CV yX11_readAct cX11_readAct 1 (some .boolean) 0 11 := ⟨cal_X11_readAct, ⟨gt4 150 rfl rfl, gtp 20 rfl rfl⟩, RX11, TX11, 13, cl11, rfl⟩
theorem cal_X10_letter : Cal yX10_letter cX10_letter 2 (some .int) 0 := ⟨gt4 155 rfl rfl, in_X10, (by decide +kernel)⟩
theorem cv_X10_letter : CV yX10_letter cX10_letter 2 (some .int) 0 10 := ⟨cal_X10_letter, ⟨gt4 153 rfl rfl, gt4 154 rfl rfl⟩, RX10, TX10, 5, cl10, rfl⟩
theorem cal_X11_readShift : Cal yX11_readShift cX11_readShift 3 (some .boolean) 0 := ⟨gt4 159 rfl rfl, in_X11, (by decide +kernel)⟩
theorem cv_X11_readShift : CV yX11_readShift cX11_readShift 3 (some .boolean) 0 11 := ⟨cal_X11_readShift, ⟨gt4 158 rfl rfl, gtp 21 rfl rfl⟩, RX11, TX11, 13, cl11, rfl⟩
theorem cal_X11_doAct : Cal yX11_doAct cX11_doAct 1 (some .int) 0 := ⟨gt4 163 rfl rfl, in_X11, (by decide +kernel)⟩
theorem cv_X11_doAct : CV yX11_doAct cX11_doAct 1 (some .int) 0 11 := ⟨cal_X11_doAct, ⟨gt4 162 rfl rfl, gtp 22 rfl rfl⟩, RX11, TX11, 13, cl11, rfl⟩
theorem cal_X7_sum : Cal yX7_sum cX7_sum 3 (some .int) 0 := ⟨gt4 167 rfl rfl, in_X7, (by decide +kernel)⟩
theorem cv_X7_sum : CV yX7_sum cX7_sum 3 (some .int) 0 7 := ⟨cal_X7_sum, ⟨gt4 165 rfl rfl, gt4 166 rfl rfl⟩, RX7, TX7, 8, cl7, rfl⟩
theorem cal_X7_of : Cal yX7_of cX7_of 8 (some .int) 1 := ⟨gt4 171 rfl rfl, in_X7, (by decide +kernel)⟩
theorem cv_X7_of : CV yX7_of cX7_of 8 (some .int) 1 7 := ⟨cal_X7_of, ⟨gt4 169 rfl rfl, gt4 170 rfl rfl⟩, RX7, TX7, 8, cl7, rfl⟩
theorem cal_X7_evaluate : Cal yX7_evaluate cX7_evaluate 4 (some .int) 0 := ⟨gt4 181 rfl rfl, in_X7, (by decide +kernel)⟩
theorem cv_X7_evaluate : CV yX7_evaluate cX7_evaluate 4 (some .int) 0 7 := ⟨cal_X7_evaluate, ⟨gt4 180 rfl rfl, gtp 23 rfl rfl⟩, RX7, TX7, 8, cl7, rfl⟩
theorem cal_X7_combine : Cal yX7_combine cX7_combine 3 (some .int) 3 := ⟨gt4 184 rfl rfl, in_X7, (by decide +kernel)⟩
theorem cs_X7_combine : CSt yX7_combine cX7_combine 3 (some .int) 3 := ⟨cal_X7_combine, gt4 183 rfl rfl⟩
theorem cal_X6_two : Cal yX6_two cX6_two 5 none 2 := ⟨gt4 190 rfl rfl, in_X6, (by decide +kernel)⟩
theorem cv_X6_two : CV yX6_two cX6_two 5 none 2 6 := ⟨cal_X6_two, ⟨gt4 188 rfl rfl, gt4 189 rfl rfl⟩, RX6, TX6, 2, cl6, rfl⟩
theorem cal_X6_one : Cal yX6_one cX6_one 3 none 1 := ⟨gt4 194 rfl rfl, in_X6, (by decide +kernel)⟩
theorem cv_X6_one : CV yX6_one cX6_one 3 none 1 6 := ⟨cal_X6_one, ⟨gt4 192 rfl rfl, gt4 193 rfl rfl⟩, RX6, TX6, 2, cl6, rfl⟩
theorem cal_X6_clear : Cal yX6_clear cX6_clear 1 none 0 := ⟨gt4 198 rfl rfl, in_X6, (by decide +kernel)⟩
theorem cv_X6_clear : CV yX6_clear cX6_clear 1 none 0 6 := ⟨cal_X6_clear, ⟨gt4 196 rfl rfl, gt4 197 rfl rfl⟩, RX6, TX6, 2, cl6, rfl⟩
theorem cal_X6_add : Cal yX6_add cX6_add 3 none 1 := ⟨gt4 202 rfl rfl, in_X6, (by decide +kernel)⟩
theorem cv_X6_add : CV yX6_add cX6_add 3 none 1 6 := ⟨cal_X6_add, ⟨gt4 200 rfl rfl, gt4 201 rfl rfl⟩, RX6, TX6, 2, cl6, rfl⟩
theorem cal_X11_undo : Cal yX11_undo cX11_undo 1 (some .int) 0 := ⟨gt4 206 rfl rfl, in_X11, (by decide +kernel)⟩
theorem cv_X11_undo : CV yX11_undo cX11_undo 1 (some .int) 0 11 := ⟨cal_X11_undo, ⟨gt4 204 rfl rfl, gt4 205 rfl rfl⟩, RX11, TX11, 13, cl11, rfl⟩
theorem cal_X4_pop : Cal yX4_pop cX4_pop 2 (some .boolean) 1 := ⟨gt4 210 rfl rfl, in_X4, (by decide +kernel)⟩
theorem cv_X4_pop : CV yX4_pop cX4_pop 2 (some .boolean) 1 4 := ⟨cal_X4_pop, ⟨gt4 208 rfl rfl, gt4 209 rfl rfl⟩, RX4, TX4, 5, cl4, rfl⟩
theorem cal_X11_alone : Cal yX11_alone cX11_alone 7 (some .int) 0 := ⟨gt4 214 rfl rfl, in_X11, (by decide +kernel)⟩
theorem cv_X11_alone : CV yX11_alone cX11_alone 7 (some .int) 0 11 := ⟨cal_X11_alone, ⟨gt4 212 rfl rfl, gt4 213 rfl rfl⟩, RX11, TX11, 13, cl11, rfl⟩
theorem cal_X2_has : Cal yX2_has cX2_has 2 (some .boolean) 1 := ⟨gt4 218 rfl rfl, in_X2, (by decide +kernel)⟩
theorem cv_X2_has : CV yX2_has cX2_has 2 (some .boolean) 1 2 := ⟨cal_X2_has, ⟨gt4 216 rfl rfl, gt4 217 rfl rfl⟩, RX2, TX2, 2, cl2, rfl⟩
theorem cal_X6_three : Cal yX6_three cX6_three 7 none 3 := ⟨gt4 222 rfl rfl, in_X6, (by decide +kernel)⟩
theorem cv_X6_three : CV yX6_three cX6_three 7 none 3 6 := ⟨cal_X6_three, ⟨gt4 220 rfl rfl, gt4 221 rfl rfl⟩, RX6, TX6, 2, cl6, rfl⟩
theorem cal_X11_bench : Cal yX11_bench cX11_bench 5 (some .int) 1 := ⟨gt4 227 rfl rfl, in_X11, (by decide +kernel)⟩
theorem cv_X11_bench : CV yX11_bench cX11_bench 5 (some .int) 1 11 := ⟨cal_X11_bench, ⟨gt4 225 rfl rfl, gt4 226 rfl rfl⟩, RX11, TX11, 13, cl11, rfl⟩
theorem cal_X1_benchIn : Cal yX1_benchIn cX1_benchIn 4 (some .int) 1 := ⟨gt4 231 rfl rfl, in_X1, (by decide +kernel)⟩
theorem cv_X1_benchIn : CV yX1_benchIn cX1_benchIn 4 (some .int) 1 1 := ⟨cal_X1_benchIn, ⟨gt4 229 rfl rfl, gt4 230 rfl rfl⟩, RX1, TX1, 10, cl1, rfl⟩
theorem cal_X11_worth : Cal yX11_worth cX11_worth 4 (some .int) 0 := ⟨gt4 236 rfl rfl, in_X11, (by decide +kernel)⟩
theorem cv_X11_worth : CV yX11_worth cX11_worth 4 (some .int) 0 11 := ⟨cal_X11_worth, ⟨gt4 234 rfl rfl, gt4 235 rfl rfl⟩, RX11, TX11, 13, cl11, rfl⟩
theorem cal_X11_stays : Cal yX11_stays cX11_stays 4 (some .int) 0 := ⟨gt5 0 rfl rfl, in_X11, (by decide +kernel)⟩
theorem cv_X11_stays : CV yX11_stays cX11_stays 4 (some .int) 0 11 := ⟨cal_X11_stays, ⟨gt4 238 rfl rfl, gt4 239 rfl rfl⟩, RX11, TX11, 13, cl11, rfl⟩
theorem cal_X1_atBench : Cal yX1_atBench cX1_atBench 4 (some .int) 1 := ⟨gt5 4 rfl rfl, in_X1, (by decide +kernel)⟩
theorem cv_X1_atBench : CV yX1_atBench cX1_atBench 4 (some .int) 1 1 := ⟨cal_X1_atBench, ⟨gt5 2 rfl rfl, gt5 3 rfl rfl⟩, RX1, TX1, 10, cl1, rfl⟩
theorem cal_X11_stuck : Cal yX11_stuck cX11_stuck 9 (some .int) 0 := ⟨gt5 8 rfl rfl, in_X11, (by decide +kernel)⟩
theorem cv_X11_stuck : CV yX11_stuck cX11_stuck 9 (some .int) 0 11 := ⟨cal_X11_stuck, ⟨gt5 6 rfl rfl, gt5 7 rfl rfl⟩, RX11, TX11, 13, cl11, rfl⟩
theorem cal_J6_bitCount_0f7a4 : Cal yJ6_bitCount_0f7a4 cJ6_bitCount_0f7a4 1 (some .int) 1 := ⟨gt5 11 rfl rfl, in_J6, (by decide +kernel)⟩
theorem cs_J6_bitCount_0f7a4 : CSt yJ6_bitCount_0f7a4 cJ6_bitCount_0f7a4 1 (some .int) 1 := ⟨cal_J6_bitCount_0f7a4, gt5 10 rfl rfl⟩
theorem cal_J6_numberOfTrailingZeros_0f7a4 : Cal yJ6_numberOfTrailingZeros_0f7a4 cJ6_numberOfTrailingZeros_0f7a4 2 (some .int) 1 := ⟨gt5 17 rfl rfl, in_J6, (by decide +kernel)⟩
theorem cs_J6_numberOfTrailingZeros_0f7a4 : CSt yJ6_numberOfTrailingZeros_0f7a4 cJ6_numberOfTrailingZeros_0f7a4 2 (some .int) 1 := ⟨cal_J6_numberOfTrailingZeros_0f7a4, gt5 16 rfl rfl⟩
theorem cal_X11_hands : Cal yX11_hands cX11_hands 5 (some .int) 2 := ⟨gt5 22 rfl rfl, in_X11, (by decide +kernel)⟩
theorem cv_X11_hands : CV yX11_hands cX11_hands 5 (some .int) 2 11 := ⟨cal_X11_hands, ⟨gt5 20 rfl rfl, gt5 21 rfl rfl⟩, RX11, TX11, 13, cl11, rfl⟩
theorem cal_X11_earliest : Cal yX11_earliest cX11_earliest 3 (some .int) 2 := ⟨gt5 29 rfl rfl, in_X11, (by decide +kernel)⟩
theorem cv_X11_earliest : CV yX11_earliest cX11_earliest 3 (some .int) 2 11 := ⟨cal_X11_earliest, ⟨gt5 27 rfl rfl, gt5 28 rfl rfl⟩, RX11, TX11, 13, cl11, rfl⟩
theorem cal_X3_soonest : Cal yX3_soonest cX3_soonest 4 (some .int) 2 := ⟨gt5 33 rfl rfl, in_X3, (by decide +kernel)⟩
theorem cv_X3_soonest : CV yX3_soonest cX3_soonest 4 (some .int) 2 3 := ⟨cal_X3_soonest, ⟨gt5 31 rfl rfl, gt5 32 rfl rfl⟩, RX3, TX3, 10, cl3, rfl⟩
theorem cal_X3_firstOpen : Cal yX3_firstOpen cX3_firstOpen 2 (some .int) 1 := ⟨gt5 37 rfl rfl, in_X3, (by decide +kernel)⟩
theorem cv_X3_firstOpen : CV yX3_firstOpen cX3_firstOpen 2 (some .int) 1 3 := ⟨cal_X3_firstOpen, ⟨gt5 36 rfl rfl, gtp 24 rfl rfl⟩, RX3, TX3, 10, cl3, rfl⟩
theorem cal_X3_lastOpen : Cal yX3_lastOpen cX3_lastOpen 2 (some .int) 1 := ⟨gt5 42 rfl rfl, in_X3, (by decide +kernel)⟩
theorem cv_X3_lastOpen : CV yX3_lastOpen cX3_lastOpen 2 (some .int) 1 3 := ⟨cal_X3_lastOpen, ⟨gt5 41 rfl rfl, gtp 25 rfl rfl⟩, RX3, TX3, 10, cl3, rfl⟩
theorem cal_X11_tellMinute : Cal yX11_tellMinute cX11_tellMinute 3 (some .int) 2 := ⟨gt5 48 rfl rfl, in_X11, (by decide +kernel)⟩
theorem cv_X11_tellMinute : CV yX11_tellMinute cX11_tellMinute 3 (some .int) 2 11 := ⟨cal_X11_tellMinute, ⟨gt5 47 rfl rfl, gtp 26 rfl rfl⟩, RX11, TX11, 13, cl11, rfl⟩
theorem cal_X11_latest : Cal yX11_latest cX11_latest 3 (some .int) 2 := ⟨gt5 54 rfl rfl, in_X11, (by decide +kernel)⟩
theorem cv_X11_latest : CV yX11_latest cX11_latest 3 (some .int) 2 11 := ⟨cal_X11_latest, ⟨gt5 52 rfl rfl, gt5 53 rfl rfl⟩, RX11, TX11, 13, cl11, rfl⟩
theorem cal_X3_last : Cal yX3_last cX3_last 4 (some .int) 2 := ⟨gt5 58 rfl rfl, in_X3, (by decide +kernel)⟩
theorem cv_X3_last : CV yX3_last cX3_last 4 (some .int) 2 3 := ⟨cal_X3_last, ⟨gt5 56 rfl rfl, gt5 57 rfl rfl⟩, RX3, TX3, 10, cl3, rfl⟩
theorem cal_X11_best : Cal yX11_best cX11_best 3 (some .int) 1 := ⟨gt5 62 rfl rfl, in_X11, (by decide +kernel)⟩
theorem cv_X11_best : CV yX11_best cX11_best 3 (some .int) 1 11 := ⟨cal_X11_best, ⟨gt5 60 rfl rfl, gt5 61 rfl rfl⟩, RX11, TX11, 13, cl11, rfl⟩
theorem cal_X3_bestFor : Cal yX3_bestFor cX3_bestFor 7 (some .int) 1 := ⟨gt5 66 rfl rfl, in_X3, (by decide +kernel)⟩
theorem cv_X3_bestFor : CV yX3_bestFor cX3_bestFor 7 (some .int) 1 3 := ⟨cal_X3_bestFor, ⟨gt5 64 rfl rfl, gt5 65 rfl rfl⟩, RX3, TX3, 10, cl3, rfl⟩
theorem cal_X5_removeLast : Cal yX5_removeLast cX5_removeLast 1 none 0 := ⟨gt5 73 rfl rfl, in_X5, (by decide +kernel)⟩
theorem cv_X5_removeLast : CV yX5_removeLast cX5_removeLast 1 none 0 5 := ⟨cal_X5_removeLast, ⟨gt5 71 rfl rfl, gt5 72 rfl rfl⟩, RX5, TX5, 2, cl5, rfl⟩
theorem cal_X11_most : Cal yX11_most cX11_most 3 (some .int) 1 := ⟨gt5 79 rfl rfl, in_X11, (by decide +kernel)⟩
theorem cv_X11_most : CV yX11_most cX11_most 3 (some .int) 1 11 := ⟨cal_X11_most, ⟨gt5 77 rfl rfl, gt5 78 rfl rfl⟩, RX11, TX11, 13, cl11, rfl⟩
theorem cal_X3_search : Cal yX3_search cX3_search 7 none 1 := ⟨gt5 83 rfl rfl, in_X3, (by decide +kernel)⟩
theorem cv_X3_search : CV yX3_search cX3_search 7 none 1 3 := ⟨cal_X3_search, ⟨gt5 81 rfl rfl, gt5 82 rfl rfl⟩, RX3, TX3, 10, cl3, rfl⟩
theorem cal_X3_put : Cal yX3_put cX3_put 6 (some .int) 4 := ⟨gt5 88 rfl rfl, in_X3, (by decide +kernel)⟩
theorem cv_X3_put : CV yX3_put cX3_put 6 (some .int) 4 3 := ⟨cal_X3_put, ⟨gt5 87 rfl rfl, gtp 27 rfl rfl⟩, RX3, TX3, 10, cl3, rfl⟩
theorem cal_X7_sumTogether : Cal yX7_sumTogether cX7_sumTogether 5 (some .int) 2 := ⟨gt5 92 rfl rfl, in_X7, (by decide +kernel)⟩
theorem cv_X7_sumTogether : CV yX7_sumTogether cX7_sumTogether 5 (some .int) 2 7 := ⟨cal_X7_sumTogether, ⟨gt5 90 rfl rfl, gt5 91 rfl rfl⟩, RX7, TX7, 8, cl7, rfl⟩
theorem cal_X3_take : Cal yX3_take cX3_take 3 none 2 := ⟨gt5 96 rfl rfl, in_X3, (by decide +kernel)⟩
theorem cv_X3_take : CV yX3_take cX3_take 3 none 2 3 := ⟨cal_X3_take, ⟨gt5 95 rfl rfl, gtp 28 rfl rfl⟩, RX3, TX3, 10, cl3, rfl⟩
theorem cal_X3_trySecond : Cal yX3_trySecond cX3_trySecond 5 none 1 := ⟨gt5 101 rfl rfl, in_X3, (by decide +kernel)⟩
theorem cv_X3_trySecond : CV yX3_trySecond cX3_trySecond 5 none 1 3 := ⟨cal_X3_trySecond, ⟨gt5 100 rfl rfl, gtp 29 rfl rfl⟩, RX3, TX3, 10, cl3, rfl⟩
theorem cal_X11_open : Cal yX11_open cX11_open 4 (some .int) 0 := ⟨gt5 107 rfl rfl, in_X11, (by decide +kernel)⟩
theorem cv_X11_open : CV yX11_open cX11_open 4 (some .int) 0 11 := ⟨cal_X11_open, ⟨gt5 105 rfl rfl, gt5 106 rfl rfl⟩, RX11, TX11, 13, cl11, rfl⟩
theorem cal_X5_ofErrand : Cal yX5_ofErrand cX5_ofErrand 4 (some .int) 1 := ⟨gt5 111 rfl rfl, in_X5, (by decide +kernel)⟩
theorem cv_X5_ofErrand : CV yX5_ofErrand cX5_ofErrand 4 (some .int) 1 5 := ⟨cal_X5_ofErrand, ⟨gt5 109 rfl rfl, gt5 110 rfl rfl⟩, RX5, TX5, 2, cl5, rfl⟩
theorem cal_X3_someone : Cal yX3_someone cX3_someone 3 (some .boolean) 1 := ⟨gt5 116 rfl rfl, in_X3, (by decide +kernel)⟩
theorem cv_X3_someone : CV yX3_someone cX3_someone 3 (some .boolean) 1 3 := ⟨cal_X3_someone, ⟨gt5 114 rfl rfl, gt5 115 rfl rfl⟩, RX3, TX3, 10, cl3, rfl⟩
theorem cal_X11_mend : Cal yX11_mend cX11_mend 2 (some .int) 0 := ⟨gt5 120 rfl rfl, in_X11, (by decide +kernel)⟩
theorem cv_X11_mend : CV yX11_mend cX11_mend 2 (some .int) 0 11 := ⟨cal_X11_mend, ⟨gt5 118 rfl rfl, gt5 119 rfl rfl⟩, RX11, TX11, 13, cl11, rfl⟩
theorem cal_X11_mendsBy : Cal yX11_mendsBy cX11_mendsBy 7 (some .boolean) 1 := ⟨gt5 124 rfl rfl, in_X11, (by decide +kernel)⟩
theorem cv_X11_mendsBy : CV yX11_mendsBy cX11_mendsBy 7 (some .boolean) 1 11 := ⟨cal_X11_mendsBy, ⟨gt5 123 rfl rfl, gtp 30 rfl rfl⟩, RX11, TX11, 13, cl11, rfl⟩
theorem cal_X11_isSoundWithout : Cal yX11_isSoundWithout cX11_isSoundWithout 3 (some .boolean) 1 := ⟨gt5 128 rfl rfl, in_X11, (by decide +kernel)⟩
theorem cv_X11_isSoundWithout : CV yX11_isSoundWithout cX11_isSoundWithout 3 (some .boolean) 1 11 := ⟨cal_X11_isSoundWithout, ⟨gt5 127 rfl rfl, gtp 31 rfl rfl⟩, RX11, TX11, 13, cl11, rfl⟩
theorem cal_X5_copyWithout : Cal yX5_copyWithout cX5_copyWithout 4 none 2 := ⟨gt5 132 rfl rfl, in_X5, (by decide +kernel)⟩
theorem cv_X5_copyWithout : CV yX5_copyWithout cX5_copyWithout 4 none 2 5 := ⟨cal_X5_copyWithout, ⟨gt5 130 rfl rfl, gt5 131 rfl rfl⟩, RX5, TX5, 2, cl5, rfl⟩
theorem cal_X2_isEmpty : Cal yX2_isEmpty cX2_isEmpty 1 (some .boolean) 0 := ⟨gt5 136 rfl rfl, in_X2, (by decide +kernel)⟩
theorem cv_X2_isEmpty : CV yX2_isEmpty cX2_isEmpty 1 (some .boolean) 0 2 := ⟨cal_X2_isEmpty, ⟨gt5 134 rfl rfl, gt5 135 rfl rfl⟩, RX2, TX2, 2, cl2, rfl⟩
theorem cal_X11_tellBits : Cal yX11_tellBits cX11_tellBits 3 none 1 := ⟨gt5 140 rfl rfl, in_X11, (by decide +kernel)⟩
theorem cv_X11_tellBits : CV yX11_tellBits cX11_tellBits 3 none 1 11 := ⟨cal_X11_tellBits, ⟨gt5 139 rfl rfl, gtp 32 rfl rfl⟩, RX11, TX11, 13, cl11, rfl⟩
theorem cal_X11_parts : Cal yX11_parts cX11_parts 6 (some .int) 0 := ⟨gt5 144 rfl rfl, in_X11, (by decide +kernel)⟩
theorem cv_X11_parts : CV yX11_parts cX11_parts 6 (some .int) 0 11 := ⟨cal_X11_parts, ⟨gt5 142 rfl rfl, gt5 143 rfl rfl⟩, RX11, TX11, 13, cl11, rfl⟩
theorem cal_X11_turn : Cal yX11_turn cX11_turn 7 (some .int) 0 := ⟨gt5 150 rfl rfl, in_X11, (by decide +kernel)⟩
theorem cv_X11_turn : CV yX11_turn cX11_turn 7 (some .int) 0 11 := ⟨cal_X11_turn, ⟨gt5 148 rfl rfl, gt5 149 rfl rfl⟩, RX11, TX11, 13, cl11, rfl⟩
theorem cal_X11_readDays : Cal yX11_readDays cX11_readDays 2 (some .boolean) 0 := ⟨gt5 154 rfl rfl, in_X11, (by decide +kernel)⟩
theorem cv_X11_readDays : CV yX11_readDays cX11_readDays 2 (some .boolean) 0 11 := ⟨cal_X11_readDays, ⟨gt5 153 rfl rfl, gtp 33 rfl rfl⟩, RX11, TX11, 13, cl11, rfl⟩
theorem cal_X10_times : Cal yX10_times cX10_times 4 (some .int) 1 := ⟨gt5 158 rfl rfl, in_X10, (by decide +kernel)⟩
theorem cv_X10_times : CV yX10_times cX10_times 4 (some .int) 1 10 := ⟨cal_X10_times, ⟨gt5 156 rfl rfl, gt5 157 rfl rfl⟩, RX10, TX10, 5, cl10, rfl⟩
theorem cal_X10_lastTime : Cal yX10_lastTime cX10_lastTime 4 (some .int) 1 := ⟨gt5 162 rfl rfl, in_X10, (by decide +kernel)⟩
theorem cv_X10_lastTime : CV yX10_lastTime cX10_lastTime 4 (some .int) 1 10 := ⟨cal_X10_lastTime, ⟨gt5 160 rfl rfl, gt5 161 rfl rfl⟩, RX10, TX10, 5, cl10, rfl⟩
theorem cal_X11_lockers : Cal yX11_lockers cX11_lockers 4 (some .int) 1 := ⟨gt5 166 rfl rfl, in_X11, (by decide +kernel)⟩
theorem cv_X11_lockers : CV yX11_lockers cX11_lockers 4 (some .int) 1 11 := ⟨cal_X11_lockers, ⟨gt5 164 rfl rfl, gt5 165 rfl rfl⟩, RX11, TX11, 13, cl11, rfl⟩
theorem cal_X0_read : Cal yX0_read cX0_read 3 (some .boolean) 1 := ⟨gt5 170 rfl rfl, in_X0, (by decide +kernel)⟩
theorem cv_X0_read : CV yX0_read cX0_read 3 (some .boolean) 1 0 := ⟨cal_X0_read, ⟨gt5 168 rfl rfl, gt5 169 rfl rfl⟩, RX0, TX0, 5, cl0, rfl⟩
theorem cal_X0_fewest : Cal yX0_fewest cX0_fewest 3 (some .int) 1 := ⟨gt5 176 rfl rfl, in_X0, (by decide +kernel)⟩
theorem cv_X0_fewest : CV yX0_fewest cX0_fewest 3 (some .int) 1 0 := ⟨cal_X0_fewest, ⟨gt5 174 rfl rfl, gt5 175 rfl rfl⟩, RX0, TX0, 5, cl0, rfl⟩
theorem cal_X0_weigh : Cal yX0_weigh cX0_weigh 4 none 1 := ⟨gt5 180 rfl rfl, in_X0, (by decide +kernel)⟩
theorem cv_X0_weigh : CV yX0_weigh cX0_weigh 4 none 1 0 := ⟨cal_X0_weigh, ⟨gt5 179 rfl rfl, gtp 34 rfl rfl⟩, RX0, TX0, 5, cl0, rfl⟩
theorem cal_X0_withOneMore : Cal yX0_withOneMore cX0_withOneMore 4 (some .int) 3 := ⟨gt5 184 rfl rfl, in_X0, (by decide +kernel)⟩
theorem cs_X0_withOneMore : CSt yX0_withOneMore cX0_withOneMore 4 (some .int) 3 := ⟨cal_X0_withOneMore, gt5 183 rfl rfl⟩
theorem cal_X0_place : Cal yX0_place cX0_place 5 (some .boolean) 3 := ⟨gt5 190 rfl rfl, in_X0, (by decide +kernel)⟩
theorem cv_X0_place : CV yX0_place cX0_place 5 (some .boolean) 3 0 := ⟨cal_X0_place, ⟨gt5 189 rfl rfl, gtp 35 rfl rfl⟩, RX0, TX0, 5, cl0, rfl⟩
theorem cal_X11_left : Cal yX11_left cX11_left 4 (some .int) 2 := ⟨gt5 195 rfl rfl, in_X11, (by decide +kernel)⟩
theorem cv_X11_left : CV yX11_left cX11_left 4 (some .int) 2 11 := ⟨cal_X11_left, ⟨gt5 193 rfl rfl, gt5 194 rfl rfl⟩, RX11, TX11, 13, cl11, rfl⟩
theorem cal_X0_mostInto : Cal yX0_mostInto cX0_mostInto 6 (some .int) 2 := ⟨gt5 199 rfl rfl, in_X0, (by decide +kernel)⟩
theorem cv_X0_mostInto : CV yX0_mostInto cX0_mostInto 6 (some .int) 2 0 := ⟨cal_X0_mostInto, ⟨gt5 197 rfl rfl, gt5 198 rfl rfl⟩, RX0, TX0, 5, cl0, rfl⟩
theorem cal_X0_sizeOf : Cal yX0_sizeOf cX0_sizeOf 4 (some .int) 1 := ⟨gt5 203 rfl rfl, in_X0, (by decide +kernel)⟩
theorem cv_X0_sizeOf : CV yX0_sizeOf cX0_sizeOf 4 (some .int) 1 0 := ⟨cal_X0_sizeOf, ⟨gt5 201 rfl rfl, gt5 202 rfl rfl⟩, RX0, TX0, 5, cl0, rfl⟩
theorem cal_X11_slack : Cal yX11_slack cX11_slack 2 (some .int) 1 := ⟨gt5 209 rfl rfl, in_X11, (by decide +kernel)⟩
theorem cv_X11_slack : CV yX11_slack cX11_slack 2 (some .int) 1 11 := ⟨cal_X11_slack, ⟨gt5 207 rfl rfl, gt5 208 rfl rfl⟩, RX11, TX11, 13, cl11, rfl⟩
theorem cal_X1_slackOf : Cal yX1_slackOf cX1_slackOf 6 (some .int) 1 := ⟨gt5 213 rfl rfl, in_X1, (by decide +kernel)⟩
theorem cv_X1_slackOf : CV yX1_slackOf cX1_slackOf 6 (some .int) 1 1 := ⟨cal_X1_slackOf, ⟨gt5 211 rfl rfl, gt5 212 rfl rfl⟩, RX1, TX1, 10, cl1, rfl⟩
theorem cal_X11_tight : Cal yX11_tight cX11_tight 5 (some .int) 0 := ⟨gt5 219 rfl rfl, in_X11, (by decide +kernel)⟩
theorem cv_X11_tight : CV yX11_tight cX11_tight 5 (some .int) 0 11 := ⟨cal_X11_tight, ⟨gt5 217 rfl rfl, gt5 218 rfl rfl⟩, RX11, TX11, 13, cl11, rfl⟩
theorem cal_X1_lookForSlack : Cal yX1_lookForSlack cX1_lookForSlack 2 none 0 := ⟨gt5 223 rfl rfl, in_X1, (by decide +kernel)⟩
theorem cv_X1_lookForSlack : CV yX1_lookForSlack cX1_lookForSlack 2 none 0 1 := ⟨cal_X1_lookForSlack, ⟨gt5 221 rfl rfl, gt5 222 rfl rfl⟩, RX1, TX1, 10, cl1, rfl⟩
theorem cal_X11_chance : Cal yX11_chance cX11_chance 9 (some .int) 2 := ⟨gt5 228 rfl rfl, in_X11, (by decide +kernel)⟩
theorem cv_X11_chance : CV yX11_chance cX11_chance 9 (some .int) 2 11 := ⟨cal_X11_chance, ⟨gt5 226 rfl rfl, gt5 227 rfl rfl⟩, RX11, TX11, 13, cl11, rfl⟩
theorem cal_X11_greatestCommon : Cal yX11_greatestCommon cX11_greatestCommon 11 (some .long) 2 := ⟨gt5 232 rfl rfl, in_X11, (by decide +kernel)⟩
theorem cs_X11_greatestCommon : CSt yX11_greatestCommon cX11_greatestCommon 11 (some .long) 2 := ⟨cal_X11_greatestCommon, gt5 231 rfl rfl⟩
theorem cal_X11_seen : Cal yX11_seen cX11_seen 4 (some .int) 3 := ⟨gt5 236 rfl rfl, in_X11, (by decide +kernel)⟩
theorem cv_X11_seen : CV yX11_seen cX11_seen 4 (some .int) 3 11 := ⟨cal_X11_seen, ⟨gt5 234 rfl rfl, gt5 235 rfl rfl⟩, RX11, TX11, 13, cl11, rfl⟩
theorem cal_X8_add : Cal yX8_add cX8_add 4 (some .boolean) 3 := ⟨gt6 0 rfl rfl, in_X8, (by decide +kernel)⟩
theorem cv_X8_add : CV yX8_add cX8_add 4 (some .boolean) 3 8 := ⟨cal_X8_add, ⟨gt5 238 rfl rfl, gt5 239 rfl rfl⟩, RX8, TX8, 5, cl8, rfl⟩
theorem cal_X11_forget : Cal yX11_forget cX11_forget 2 (some .int) 0 := ⟨gt6 4 rfl rfl, in_X11, (by decide +kernel)⟩
theorem cv_X11_forget : CV yX11_forget cX11_forget 2 (some .int) 0 11 := ⟨cal_X11_forget, ⟨gt6 2 rfl rfl, gt6 3 rfl rfl⟩, RX11, TX11, 13, cl11, rfl⟩
theorem cal_X11_fits : Cal yX11_fits cX11_fits 3 (some .int) 0 := ⟨gt6 8 rfl rfl, in_X11, (by decide +kernel)⟩
theorem cv_X11_fits : CV yX11_fits cX11_fits 3 (some .int) 0 11 := ⟨cal_X11_fits, ⟨gt6 6 rfl rfl, gt6 7 rfl rfl⟩, RX11, TX11, 13, cl11, rfl⟩
theorem cal_X8_fitsPlan : Cal yX8_fitsPlan cX8_fitsPlan 5 (some .boolean) 2 := ⟨gt6 12 rfl rfl, in_X8, (by decide +kernel)⟩
theorem cv_X8_fitsPlan : CV yX8_fitsPlan cX8_fitsPlan 5 (some .boolean) 2 8 := ⟨cal_X8_fitsPlan, ⟨gt6 10 rfl rfl, gt6 11 rfl rfl⟩, RX8, TX8, 5, cl8, rfl⟩
theorem cal_X8_isThere : Cal yX8_isThere cX8_isThere 5 (some .boolean) 3 := ⟨gt6 19 rfl rfl, in_X8, (by decide +kernel)⟩
theorem cv_X8_isThere : CV yX8_isThere cX8_isThere 5 (some .boolean) 3 8 := ⟨cal_X8_isThere, ⟨gt6 18 rfl rfl, gtp 36 rfl rfl⟩, RX8, TX8, 5, cl8, rfl⟩
theorem cal_X11_since : Cal yX11_since cX11_since 8 (some .int) 2 := ⟨gt6 23 rfl rfl, in_X11, (by decide +kernel)⟩
theorem cv_X11_since : CV yX11_since cX11_since 8 (some .int) 2 11 := ⟨cal_X11_since, ⟨gt6 21 rfl rfl, gt6 22 rfl rfl⟩, RX11, TX11, 13, cl11, rfl⟩
theorem cal_X8_allow : Cal yX8_allow cX8_allow 6 (some .boolean) 3 := ⟨gt6 29 rfl rfl, in_X8, (by decide +kernel)⟩
theorem cv_X8_allow : CV yX8_allow cX8_allow 6 (some .boolean) 3 8 := ⟨cal_X8_allow, ⟨gt6 27 rfl rfl, gt6 28 rfl rfl⟩, RX8, TX8, 5, cl8, rfl⟩
theorem cal_X11_stayed : Cal yX11_stayed cX11_stayed 4 (some .int) 1 := ⟨gt6 34 rfl rfl, in_X11, (by decide +kernel)⟩
theorem cv_X11_stayed : CV yX11_stayed cX11_stayed 4 (some .int) 1 11 := ⟨cal_X11_stayed, ⟨gt6 32 rfl rfl, gt6 33 rfl rfl⟩, RX11, TX11, 13, cl11, rfl⟩
theorem cal_X8_allowBench : Cal yX8_allowBench cX8_allowBench 4 (some .boolean) 2 := ⟨gt6 38 rfl rfl, in_X8, (by decide +kernel)⟩
theorem cv_X8_allowBench : CV yX8_allowBench cX8_allowBench 4 (some .boolean) 2 8 := ⟨cal_X8_allowBench, ⟨gt6 36 rfl rfl, gt6 37 rfl rfl⟩, RX8, TX8, 5, cl8, rfl⟩
theorem cal_J9_abs_0f7a4 : Cal yJ9_abs_0f7a4 cJ9_abs_0f7a4 1 (some .int) 1 := ⟨gt6 41 rfl rfl, in_J9, (by decide +kernel)⟩
theorem cs_J9_abs_0f7a4 : CSt yJ9_abs_0f7a4 cJ9_abs_0f7a4 1 (some .int) 1 := ⟨cal_J9_abs_0f7a4, gt6 40 rfl rfl⟩
theorem cal_X11_journey : Cal yX11_journey cX11_journey 9 (some .int) 3 := ⟨gt6 45 rfl rfl, in_X11, (by decide +kernel)⟩
theorem cv_X11_journey : CV yX11_journey cX11_journey 9 (some .int) 3 11 := ⟨cal_X11_journey, ⟨gt6 43 rfl rfl, gt6 44 rfl rfl⟩, RX11, TX11, 13, cl11, rfl⟩
theorem cal_X11_tellMisses : Cal yX11_tellMisses cX11_tellMisses 4 none 0 := ⟨gt6 51 rfl rfl, in_X11, (by decide +kernel)⟩
theorem cv_X11_tellMisses : CV yX11_tellMisses cX11_tellMisses 4 none 0 11 := ⟨cal_X11_tellMisses, ⟨gt6 50 rfl rfl, gtp 37 rfl rfl⟩, RX11, TX11, 13, cl11, rfl⟩
theorem cal_X11_keep : Cal yX11_keep cX11_keep 2 (some .boolean) 1 := ⟨gt6 55 rfl rfl, in_X11, (by decide +kernel)⟩
theorem cv_X11_keep : CV yX11_keep cX11_keep 2 (some .boolean) 1 11 := ⟨cal_X11_keep, ⟨gt6 53 rfl rfl, gt6 54 rfl rfl⟩, RX11, TX11, 13, cl11, rfl⟩
theorem cal_X4_store : Cal yX4_store cX4_store 4 (some .boolean) 3 := ⟨gt6 59 rfl rfl, in_X4, (by decide +kernel)⟩
theorem cv_X4_store : CV yX4_store cX4_store 4 (some .boolean) 3 4 := ⟨cal_X4_store, ⟨gt6 57 rfl rfl, gt6 58 rfl rfl⟩, RX4, TX4, 5, cl4, rfl⟩
theorem cal_X11_again : Cal yX11_again cX11_again 2 (some .boolean) 1 := ⟨gt6 63 rfl rfl, in_X11, (by decide +kernel)⟩
theorem cv_X11_again : CV yX11_again cX11_again 2 (some .boolean) 1 11 := ⟨cal_X11_again, ⟨gt6 61 rfl rfl, gt6 62 rfl rfl⟩, RX11, TX11, 13, cl11, rfl⟩
theorem cal_X4_fetch : Cal yX4_fetch cX4_fetch 4 (some .boolean) 3 := ⟨gt6 67 rfl rfl, in_X4, (by decide +kernel)⟩
theorem cv_X4_fetch : CV yX4_fetch cX4_fetch 4 (some .boolean) 3 4 := ⟨cal_X4_fetch, ⟨gt6 65 rfl rfl, gt6 66 rfl rfl⟩, RX4, TX4, 5, cl4, rfl⟩
theorem cal_X11_count : Cal yX11_count cX11_count 2 (some .int) 1 := ⟨gt6 71 rfl rfl, in_X11, (by decide +kernel)⟩
theorem cv_X11_count : CV yX11_count cX11_count 2 (some .int) 1 11 := ⟨cal_X11_count, ⟨gt6 69 rfl rfl, gt6 70 rfl rfl⟩, RX11, TX11, 13, cl11, rfl⟩
theorem cal_X9_shyOnes : Cal yX9_shyOnes cX9_shyOnes 3 (some .int) 0 := ⟨gt6 75 rfl rfl, in_X9, (by decide +kernel)⟩
theorem cv_X9_shyOnes : CV yX9_shyOnes cX9_shyOnes 3 (some .int) 0 9 := ⟨cal_X9_shyOnes, ⟨gt6 73 rfl rfl, gt6 74 rfl rfl⟩, RX9, TX9, 13, cl9, rfl⟩
theorem cal_X11_person : Cal yX11_person cX11_person 3 (some .int) 2 := ⟨gt6 83 rfl rfl, in_X11, (by decide +kernel)⟩
theorem cv_X11_person : CV yX11_person cX11_person 3 (some .int) 2 11 := ⟨cal_X11_person, ⟨gt6 81 rfl rfl, gt6 82 rfl rfl⟩, RX11, TX11, 13, cl11, rfl⟩
theorem cal_X5_ofPerson : Cal yX5_ofPerson cX5_ofPerson 4 (some .int) 1 := ⟨gt6 148 rfl rfl, in_X5, (by decide +kernel)⟩
theorem cv_X5_ofPerson : CV yX5_ofPerson cX5_ofPerson 4 (some .int) 1 5 := ⟨cal_X5_ofPerson, ⟨gt6 146 rfl rfl, gt6 147 rfl rfl⟩, RX5, TX5, 2, cl5, rfl⟩
theorem cal_X1_longestAtBench : Cal yX1_longestAtBench cX1_longestAtBench 5 (some .int) 1 := ⟨gt6 153 rfl rfl, in_X1, (by decide +kernel)⟩
theorem cv_X1_longestAtBench : CV yX1_longestAtBench cX1_longestAtBench 5 (some .int) 1 1 := ⟨cal_X1_longestAtBench, ⟨gt6 151 rfl rfl, gt6 152 rfl rfl⟩, RX1, TX1, 10, cl1, rfl⟩
theorem cal_X7_sumOf : Cal yX7_sumOf cX7_sumOf 4 (some .int) 1 := ⟨gt6 158 rfl rfl, in_X7, (by decide +kernel)⟩
theorem cv_X7_sumOf : CV yX7_sumOf cX7_sumOf 4 (some .int) 1 7 := ⟨cal_X7_sumOf, ⟨gt6 156 rfl rfl, gt6 157 rfl rfl⟩, RX7, TX7, 8, cl7, rfl⟩
theorem cal_X11_errand : Cal yX11_errand cX11_errand 3 (some .int) 2 := ⟨gt6 165 rfl rfl, in_X11, (by decide +kernel)⟩
theorem cv_X11_errand : CV yX11_errand cX11_errand 3 (some .int) 2 11 := ⟨cal_X11_errand, ⟨gt6 163 rfl rfl, gt6 164 rfl rfl⟩, RX11, TX11, 13, cl11, rfl⟩
theorem cal_X11_trip : Cal yX11_trip cX11_trip 3 (some .int) 2 := ⟨gt6 172 rfl rfl, in_X11, (by decide +kernel)⟩
theorem cv_X11_trip : CV yX11_trip cX11_trip 3 (some .int) 2 11 := ⟨cal_X11_trip, ⟨gt6 170 rfl rfl, gt6 171 rfl rfl⟩, RX11, TX11, 13, cl11, rfl⟩
theorem cal_X11_row : Cal yX11_row cX11_row 2 (some .long) 1 := ⟨gt6 180 rfl rfl, in_X11, (by decide +kernel)⟩
theorem cv_X11_row : CV yX11_row cX11_row 2 (some .long) 1 11 := ⟨cal_X11_row, ⟨gt6 178 rfl rfl, gt6 179 rfl rfl⟩, RX11, TX11, 13, cl11, rfl⟩
theorem cal_X12_init : Cal yX12_init cX12_init 1 none 0 := ⟨gt6 185 rfl rfl, in_X12, (by decide +kernel)⟩
theorem ci_X12_init : CIt yX12_init cX12_init 1 0 := ⟨cal_X12_init, gt6 184 rfl rfl, rfl⟩
theorem cal_X12_thrown : Cal yX12_thrown cX12_thrown 1 (some .int) 0 := ⟨gt7 128 rfl rfl, in_X12, (by decide +kernel)⟩
theorem cv_X12_thrown : CV yX12_thrown cX12_thrown 1 (some .int) 0 12 := ⟨cal_X12_thrown, ⟨gt7 126 rfl rfl, gt7 127 rfl rfl⟩, RX12, TX12, 59, cl12, rfl⟩
theorem cal_X12_sign : Cal yX12_sign cX12_sign 3 (some .int) 1 := ⟨gt7 132 rfl rfl, in_X12, (by decide +kernel)⟩
theorem cv_X12_sign : CV yX12_sign cX12_sign 3 (some .int) 1 12 := ⟨cal_X12_sign, ⟨gt7 130 rfl rfl, gt7 131 rfl rfl⟩, RX12, TX12, 59, cl12, rfl⟩
theorem cal_X12_end : Cal yX12_end cX12_end 2 (some .boolean) 1 := ⟨gt7 136 rfl rfl, in_X12, (by decide +kernel)⟩
theorem cv_X12_end : CV yX12_end cX12_end 2 (some .boolean) 1 12 := ⟨cal_X12_end, ⟨gt7 134 rfl rfl, gt7 135 rfl rfl⟩, RX12, TX12, 59, cl12, rfl⟩
theorem cal_X12_in : Cal yX12_in cX12_in 6 (some .boolean) 3 := ⟨gt7 139 rfl rfl, in_X12, (by decide +kernel)⟩
theorem cs_X12_in : CSt yX12_in cX12_in 6 (some .boolean) 3 := ⟨cal_X12_in, gt7 138 rfl rfl⟩
theorem cal_X12_station : Cal yX12_station cX12_station 7 (some .int) 0 := ⟨gt7 143 rfl rfl, in_X12, (by decide +kernel)⟩
theorem cv_X12_station : CV yX12_station cX12_station 7 (some .int) 0 12 := ⟨cal_X12_station, ⟨gt7 141 rfl rfl, gt7 142 rfl rfl⟩, RX12, TX12, 59, cl12, rfl⟩
theorem cal_X12_begins : Cal yX12_begins cX12_begins 3 (some .int) 1 := ⟨gt7 147 rfl rfl, in_X12, (by decide +kernel)⟩
theorem cv_X12_begins : CV yX12_begins cX12_begins 3 (some .int) 1 12 := ⟨cal_X12_begins, ⟨gt7 146 rfl rfl, gtp 39 rfl rfl⟩, RX12, TX12, 59, cl12, rfl⟩
theorem cal_X12_readsLine : Cal yX12_readsLine cX12_readsLine 1 (some .boolean) 0 := ⟨gt7 152 rfl rfl, in_X12, (by decide +kernel)⟩
theorem cv_X12_readsLine : CV yX12_readsLine cX12_readsLine 1 (some .boolean) 0 12 := ⟨cal_X12_readsLine, ⟨gt7 151 rfl rfl, gtp 40 rfl rfl⟩, RX12, TX12, 59, cl12, rfl⟩
theorem cal_X12_among : Cal yX12_among cX12_among 3 (some .int) 1 := ⟨gt7 157 rfl rfl, in_X12, (by decide +kernel)⟩
theorem cv_X12_among : CV yX12_among cX12_among 3 (some .int) 1 12 := ⟨cal_X12_among, ⟨gt7 156 rfl rfl, gtp 41 rfl rfl⟩, RX12, TX12, 59, cl12, rfl⟩
theorem cal_J0_charAt_5068e : Cal yJ0_charAt_5068e cJ0_charAt_5068e 2 (some .char) 1 := ⟨gt7 162 rfl rfl, in_J0, (by decide +kernel)⟩
theorem cal_J1_charAt_3b067 : Cal yJ1_charAt_3b067 cJ1_charAt_3b067 2 (some .char) 2 := ⟨gt7 165 rfl rfl, in_J1, (by decide +kernel)⟩
theorem cs_J1_charAt_3b067 : CSt yJ1_charAt_3b067 cJ1_charAt_3b067 2 (some .char) 2 := ⟨cal_J1_charAt_3b067, gt7 164 rfl rfl⟩
theorem cal_J0_checkIndex_df160 : Cal yJ0_checkIndex_df160 cJ0_checkIndex_df160 2 none 2 := ⟨gt7 168 rfl rfl, in_J0, (by decide +kernel)⟩
theorem cs_J0_checkIndex_df160 : CSt yJ0_checkIndex_df160 cJ0_checkIndex_df160 2 none 2 := ⟨cal_J0_checkIndex_df160, gt7 167 rfl rfl⟩
theorem cal_J3_checkIndex_8e157 : Cal yJ3_checkIndex_8e157 cJ3_checkIndex_8e157 3 (some .int) 3 := ⟨gt7 171 rfl rfl, in_J3, (by decide +kernel)⟩
theorem cs_J3_checkIndex_8e157 : CSt yJ3_checkIndex_8e157 cJ3_checkIndex_8e157 3 (some .int) 3 := ⟨cal_J3_checkIndex_8e157, gt7 170 rfl rfl⟩
theorem cal_J2_charAt_3b067 : Cal yJ2_charAt_3b067 cJ2_charAt_3b067 2 (some .char) 2 := ⟨gt7 174 rfl rfl, in_J2, (by decide +kernel)⟩
theorem cs_J2_charAt_3b067 : CSt yJ2_charAt_3b067 cJ2_charAt_3b067 2 (some .char) 2 := ⟨cal_J2_charAt_3b067, gt7 173 rfl rfl⟩
theorem cal_J2_checkIndex_2214a : Cal yJ2_checkIndex_2214a cJ2_checkIndex_2214a 2 none 2 := ⟨gt7 177 rfl rfl, in_J2, (by decide +kernel)⟩
theorem cs_J2_checkIndex_2214a : CSt yJ2_checkIndex_2214a cJ2_checkIndex_2214a 2 none 2 := ⟨cal_J2_checkIndex_2214a, gt7 176 rfl rfl⟩
theorem cal_X12_readsPerson : Cal yX12_readsPerson cX12_readsPerson 1 (some .boolean) 0 := ⟨gt7 182 rfl rfl, in_X12, (by decide +kernel)⟩
theorem cv_X12_readsPerson : CV yX12_readsPerson cX12_readsPerson 1 (some .boolean) 0 12 := ⟨cal_X12_readsPerson, ⟨gt7 181 rfl rfl, gtp 42 rfl rfl⟩, RX12, TX12, 59, cl12, rfl⟩
theorem cal_X12_takes : Cal yX12_takes cX12_takes 3 (some .boolean) 1 := ⟨gt7 186 rfl rfl, in_X12, (by decide +kernel)⟩
theorem cv_X12_takes : CV yX12_takes cX12_takes 3 (some .boolean) 1 12 := ⟨cal_X12_takes, ⟨gt7 185 rfl rfl, gtp 43 rfl rfl⟩, RX12, TX12, 59, cl12, rfl⟩
theorem cal_X12_flag : Cal yX12_flag cX12_flag 1 (some .int) 1 := ⟨gt7 189 rfl rfl, in_X12, (by decide +kernel)⟩
theorem cs_X12_flag : CSt yX12_flag cX12_flag 1 (some .int) 1 := ⟨cal_X12_flag, gt7 188 rfl rfl⟩
theorem cal_X12_readsErrand : Cal yX12_readsErrand cX12_readsErrand 2 (some .boolean) 0 := ⟨gt7 194 rfl rfl, in_X12, (by decide +kernel)⟩
theorem cv_X12_readsErrand : CV yX12_readsErrand cX12_readsErrand 2 (some .boolean) 0 12 := ⟨cal_X12_readsErrand, ⟨gt7 193 rfl rfl, gtp 44 rfl rfl⟩, RX12, TX12, 59, cl12, rfl⟩
theorem cal_X12_digit : Cal yX12_digit cX12_digit 3 (some .int) 2 := ⟨gt7 198 rfl rfl, in_X12, (by decide +kernel)⟩
theorem cv_X12_digit : CV yX12_digit cX12_digit 3 (some .int) 2 12 := ⟨cal_X12_digit, ⟨gt7 197 rfl rfl, gtp 45 rfl rfl⟩, RX12, TX12, 59, cl12, rfl⟩
theorem cal_X12_isDigit : Cal yX12_isDigit cX12_isDigit 1 (some .boolean) 0 := ⟨gt7 202 rfl rfl, in_X12, (by decide +kernel)⟩
theorem cv_X12_isDigit : CV yX12_isDigit cX12_isDigit 1 (some .boolean) 0 12 := ⟨cal_X12_isDigit, ⟨gt7 201 rfl rfl, gtp 46 rfl rfl⟩, RX12, TX12, 59, cl12, rfl⟩
theorem cal_X12_number : Cal yX12_number cX12_number 4 (some .int) 1 := ⟨gt7 208 rfl rfl, in_X12, (by decide +kernel)⟩
theorem cv_X12_number : CV yX12_number cX12_number 4 (some .int) 1 12 := ⟨cal_X12_number, ⟨gt7 207 rfl rfl, gtp 47 rfl rfl⟩, RX12, TX12, 59, cl12, rfl⟩
theorem cal_X12_takesOf : Cal yX12_takesOf cX12_takesOf 3 (some .int) 1 := ⟨gt7 213 rfl rfl, in_X12, (by decide +kernel)⟩
theorem cv_X12_takesOf : CV yX12_takesOf cX12_takesOf 3 (some .int) 1 12 := ⟨cal_X12_takesOf, ⟨gt7 212 rfl rfl, gtp 48 rfl rfl⟩, RX12, TX12, 59, cl12, rfl⟩
theorem cal_X12_faultOf : Cal yX12_faultOf cX12_faultOf 5 (some .int) 3 := ⟨gt7 217 rfl rfl, in_X12, (by decide +kernel)⟩
theorem cv_X12_faultOf : CV yX12_faultOf cX12_faultOf 5 (some .int) 3 12 := ⟨cal_X12_faultOf, ⟨gt7 216 rfl rfl, gtp 49 rfl rfl⟩, RX12, TX12, 59, cl12, rfl⟩
theorem cal_X12_wishes : Cal yX12_wishes cX12_wishes 5 (some .int) 1 := ⟨gt7 221 rfl rfl, in_X12, (by decide +kernel)⟩
theorem cv_X12_wishes : CV yX12_wishes cX12_wishes 5 (some .int) 1 12 := ⟨cal_X12_wishes, ⟨gt7 219 rfl rfl, gt7 220 rfl rfl⟩, RX12, TX12, 59, cl12, rfl⟩
theorem cal_X12_isPerson : Cal yX12_isPerson cX12_isPerson 2 (some .boolean) 1 := ⟨gt7 225 rfl rfl, in_X12, (by decide +kernel)⟩
theorem cv_X12_isPerson : CV yX12_isPerson cX12_isPerson 2 (some .boolean) 1 12 := ⟨cal_X12_isPerson, ⟨gt7 224 rfl rfl, gtp 50 rfl rfl⟩, RX12, TX12, 59, cl12, rfl⟩
theorem cal_X12_rule : Cal yX12_rule cX12_rule 5 (some .int) 0 := ⟨gt7 229 rfl rfl, in_X12, (by decide +kernel)⟩
theorem cv_X12_rule : CV yX12_rule cX12_rule 5 (some .int) 0 12 := ⟨cal_X12_rule, ⟨gt7 227 rfl rfl, gt7 228 rfl rfl⟩, RX12, TX12, 59, cl12, rfl⟩
theorem cal_X12_readsRank : Cal yX12_readsRank cX12_readsRank 4 (some .boolean) 1 := ⟨gt7 233 rfl rfl, in_X12, (by decide +kernel)⟩
theorem cv_X12_readsRank : CV yX12_readsRank cX12_readsRank 4 (some .boolean) 1 12 := ⟨cal_X12_readsRank, ⟨gt7 232 rfl rfl, gtp 51 rfl rfl⟩, RX12, TX12, 59, cl12, rfl⟩
theorem cal_X12_readsNode : Cal yX12_readsNode cX12_readsNode 2 (some .boolean) 0 := ⟨gt7 237 rfl rfl, in_X12, (by decide +kernel)⟩
theorem cv_X12_readsNode : CV yX12_readsNode cX12_readsNode 2 (some .boolean) 0 12 := ⟨cal_X12_readsNode, ⟨gt7 236 rfl rfl, gtp 52 rfl rfl⟩, RX12, TX12, 59, cl12, rfl⟩
theorem cal_X12_codes : Cal yX12_codes cX12_codes 2 none 1 := ⟨gt8 1 rfl rfl, in_X12, (by decide +kernel)⟩
theorem cv_X12_codes : CV yX12_codes cX12_codes 2 none 1 12 := ⟨cal_X12_codes, ⟨gt8 0 rfl rfl, gtp 53 rfl rfl⟩, RX12, TX12, 59, cl12, rfl⟩
theorem cal_X12_plan : Cal yX12_plan cX12_plan 5 (some .int) 0 := ⟨gt8 9 rfl rfl, in_X12, (by decide +kernel)⟩
theorem cv_X12_plan : CV yX12_plan cX12_plan 5 (some .int) 0 12 := ⟨cal_X12_plan, ⟨gt8 7 rfl rfl, gt8 8 rfl rfl⟩, RX12, TX12, 59, cl12, rfl⟩
theorem cal_X12_readsTrip : Cal yX12_readsTrip cX12_readsTrip 4 (some .boolean) 0 := ⟨gt8 13 rfl rfl, in_X12, (by decide +kernel)⟩
theorem cv_X12_readsTrip : CV yX12_readsTrip cX12_readsTrip 4 (some .boolean) 0 12 := ⟨cal_X12_readsTrip, ⟨gt8 12 rfl rfl, gtp 54 rfl rfl⟩, RX12, TX12, 59, cl12, rfl⟩
theorem cal_X12_letter : Cal yX12_letter cX12_letter 2 (some .int) 1 := ⟨gt8 17 rfl rfl, in_X12, (by decide +kernel)⟩
theorem cv_X12_letter : CV yX12_letter cX12_letter 2 (some .int) 1 12 := ⟨cal_X12_letter, ⟨gt8 16 rfl rfl, gtp 55 rfl rfl⟩, RX12, TX12, 59, cl12, rfl⟩
theorem cal_X12_comes : Cal yX12_comes cX12_comes 5 none 4 := ⟨gt8 21 rfl rfl, in_X12, (by decide +kernel)⟩
theorem cs_X12_comes : CSt yX12_comes cX12_comes 5 none 4 := ⟨cal_X12_comes, gt8 20 rfl rfl⟩
theorem cal_X12_putsBy : Cal yX12_putsBy cX12_putsBy 2 none 0 := ⟨gt8 25 rfl rfl, in_X12, (by decide +kernel)⟩
theorem cv_X12_putsBy : CV yX12_putsBy cX12_putsBy 2 none 0 12 := ⟨cal_X12_putsBy, ⟨gt8 24 rfl rfl, gtp 56 rfl rfl⟩, RX12, TX12, 59, cl12, rfl⟩
theorem cal_X12_puts : Cal yX12_puts cX12_puts 3 none 2 := ⟨gt8 28 rfl rfl, in_X12, (by decide +kernel)⟩
theorem cs_X12_puts : CSt yX12_puts cX12_puts 3 none 2 := ⟨cal_X12_puts, gt8 27 rfl rfl⟩
theorem cal_X12_adds : Cal yX12_adds cX12_adds 3 (some .int) 1 := ⟨gt8 32 rfl rfl, in_X12, (by decide +kernel)⟩
theorem cv_X12_adds : CV yX12_adds cX12_adds 3 (some .int) 1 12 := ⟨cal_X12_adds, ⟨gt8 31 rfl rfl, gtp 57 rfl rfl⟩, RX12, TX12, 59, cl12, rfl⟩
theorem cal_X12_person : Cal yX12_person cX12_person 10 (some .int) 2 := ⟨gt8 36 rfl rfl, in_X12, (by decide +kernel)⟩
theorem cv_X12_person : CV yX12_person cX12_person 10 (some .int) 2 12 := ⟨cal_X12_person, ⟨gt8 34 rfl rfl, gt8 35 rfl rfl⟩, RX12, TX12, 59, cl12, rfl⟩
theorem cal_X12_refuse : Cal yX12_refuse cX12_refuse 1 (some .int) 0 := ⟨gt8 41 rfl rfl, in_X12, (by decide +kernel)⟩
theorem cv_X12_refuse : CV yX12_refuse cX12_refuse 1 (some .int) 0 12 := ⟨cal_X12_refuse, ⟨gt8 40 rfl rfl, gtp 58 rfl rfl⟩, RX12, TX12, 59, cl12, rfl⟩
theorem cal_X12_who : Cal yX12_who cX12_who 2 (some .int) 2 := ⟨gt8 44 rfl rfl, in_X12, (by decide +kernel)⟩
theorem cs_X12_who : CSt yX12_who cX12_who 2 (some .int) 2 := ⟨cal_X12_who, gt8 43 rfl rfl⟩
theorem cal_X12_worthOf : Cal yX12_worthOf cX12_worthOf 6 (some .int) 2 := ⟨gt8 48 rfl rfl, in_X12, (by decide +kernel)⟩
theorem cv_X12_worthOf : CV yX12_worthOf cX12_worthOf 6 (some .int) 2 12 := ⟨cal_X12_worthOf, ⟨gt8 47 rfl rfl, gtp 59 rfl rfl⟩, RX12, TX12, 59, cl12, rfl⟩
theorem cal_X12_worked : Cal yX12_worked cX12_worked 3 (some .int) 3 := ⟨gt8 51 rfl rfl, in_X12, (by decide +kernel)⟩
theorem cs_X12_worked : CSt yX12_worked cX12_worked 3 (some .int) 3 := ⟨cal_X12_worked, gt8 50 rfl rfl⟩
theorem cal_X12_thingOf : Cal yX12_thingOf cX12_thingOf 6 (some .int) 3 := ⟨gt8 55 rfl rfl, in_X12, (by decide +kernel)⟩
theorem cv_X12_thingOf : CV yX12_thingOf cX12_thingOf 6 (some .int) 3 12 := ⟨cal_X12_thingOf, ⟨gt8 54 rfl rfl, gtp 60 rfl rfl⟩, RX12, TX12, 59, cl12, rfl⟩
theorem cal_X12_what : Cal yX12_what cX12_what 2 (some .int) 2 := ⟨gt8 58 rfl rfl, in_X12, (by decide +kernel)⟩
theorem cs_X12_what : CSt yX12_what cX12_what 2 (some .int) 2 := ⟨cal_X12_what, gt8 57 rfl rfl⟩
theorem cal_X12_awayLong : Cal yX12_awayLong cX12_awayLong 2 (some .int) 1 := ⟨gt8 62 rfl rfl, in_X12, (by decide +kernel)⟩
theorem cv_X12_awayLong : CV yX12_awayLong cX12_awayLong 2 (some .int) 1 12 := ⟨cal_X12_awayLong, ⟨gt8 61 rfl rfl, gtp 61 rfl rfl⟩, RX12, TX12, 59, cl12, rfl⟩
theorem cal_X12_start : Cal yX12_start cX12_start 2 (some .int) 2 := ⟨gt8 65 rfl rfl, in_X12, (by decide +kernel)⟩
theorem cs_X12_start : CSt yX12_start cX12_start 2 (some .int) 2 := ⟨cal_X12_start, gt8 64 rfl rfl⟩
theorem cal_X12_areOne : Cal yX12_areOne cX12_areOne 3 (some .boolean) 3 := ⟨gt8 68 rfl rfl, in_X12, (by decide +kernel)⟩
theorem cs_X12_areOne : CSt yX12_areOne cX12_areOne 3 (some .boolean) 3 := ⟨cal_X12_areOne, gt8 67 rfl rfl⟩
theorem cal_X12_benchIn : Cal yX12_benchIn cX12_benchIn 5 (some .int) 2 := ⟨gt8 73 rfl rfl, in_X12, (by decide +kernel)⟩
theorem cv_X12_benchIn : CV yX12_benchIn cX12_benchIn 5 (some .int) 2 12 := ⟨cal_X12_benchIn, ⟨gt8 72 rfl rfl, gtp 62 rfl rfl⟩, RX12, TX12, 59, cl12, rfl⟩
theorem cal_X12_isAway : Cal yX12_isAway cX12_isAway 4 (some .boolean) 3 := ⟨gt8 77 rfl rfl, in_X12, (by decide +kernel)⟩
theorem cv_X12_isAway : CV yX12_isAway cX12_isAway 4 (some .boolean) 3 12 := ⟨cal_X12_isAway, ⟨gt8 76 rfl rfl, gtp 63 rfl rfl⟩, RX12, TX12, 59, cl12, rfl⟩
theorem cal_X12_back : Cal yX12_back cX12_back 3 (some .int) 2 := ⟨gt8 81 rfl rfl, in_X12, (by decide +kernel)⟩
theorem cv_X12_back : CV yX12_back cX12_back 3 (some .int) 2 12 := ⟨cal_X12_back, ⟨gt8 80 rfl rfl, gtp 64 rfl rfl⟩, RX12, TX12, 59, cl12, rfl⟩
theorem cal_X12_has : Cal yX12_has cX12_has 2 (some .boolean) 2 := ⟨gt8 84 rfl rfl, in_X12, (by decide +kernel)⟩
theorem cs_X12_has : CSt yX12_has cX12_has 2 (some .boolean) 2 := ⟨cal_X12_has, gt8 83 rfl rfl⟩
theorem cal_X12_errand : Cal yX12_errand cX12_errand 5 (some .int) 2 := ⟨gt8 88 rfl rfl, in_X12, (by decide +kernel)⟩
theorem cv_X12_errand : CV yX12_errand cX12_errand 5 (some .int) 2 12 := ⟨cal_X12_errand, ⟨gt8 86 rfl rfl, gt8 87 rfl rfl⟩, RX12, TX12, 59, cl12, rfl⟩
theorem cal_X12_isErrand : Cal yX12_isErrand cX12_isErrand 2 (some .boolean) 1 := ⟨gt8 92 rfl rfl, in_X12, (by decide +kernel)⟩
theorem cv_X12_isErrand : CV yX12_isErrand cX12_isErrand 2 (some .boolean) 1 12 := ⟨cal_X12_isErrand, ⟨gt8 91 rfl rfl, gtp 65 rfl rfl⟩, RX12, TX12, 59, cl12, rfl⟩
theorem cal_X12_trip : Cal yX12_trip cX12_trip 3 (some .int) 2 := ⟨gt8 97 rfl rfl, in_X12, (by decide +kernel)⟩
theorem cv_X12_trip : CV yX12_trip cX12_trip 3 (some .int) 2 12 := ⟨cal_X12_trip, ⟨gt8 95 rfl rfl, gt8 96 rfl rfl⟩, RX12, TX12, 59, cl12, rfl⟩
theorem cal_X12_isTrip : Cal yX12_isTrip cX12_isTrip 2 (some .boolean) 1 := ⟨gt8 101 rfl rfl, in_X12, (by decide +kernel)⟩
theorem cv_X12_isTrip : CV yX12_isTrip cX12_isTrip 2 (some .boolean) 1 12 := ⟨cal_X12_isTrip, ⟨gt8 100 rfl rfl, gtp 66 rfl rfl⟩, RX12, TX12, 59, cl12, rfl⟩
theorem cal_X12_whyNot : Cal yX12_whyNot cX12_whyNot 8 (some .int) 2 := ⟨gt8 105 rfl rfl, in_X12, (by decide +kernel)⟩
theorem cv_X12_whyNot : CV yX12_whyNot cX12_whyNot 8 (some .int) 2 12 := ⟨cal_X12_whyNot, ⟨gt8 104 rfl rfl, gtp 67 rfl rfl⟩, RX12, TX12, 59, cl12, rfl⟩
theorem cal_X12_fitsIn : Cal yX12_fitsIn cX12_fitsIn 3 (some .boolean) 2 := ⟨gt8 109 rfl rfl, in_X12, (by decide +kernel)⟩
theorem cv_X12_fitsIn : CV yX12_fitsIn cX12_fitsIn 3 (some .boolean) 2 12 := ⟨cal_X12_fitsIn, ⟨gt8 108 rfl rfl, gtp 68 rfl rfl⟩, RX12, TX12, 59, cl12, rfl⟩
theorem cal_X12_meet : Cal yX12_meet cX12_meet 4 (some .boolean) 3 := ⟨gt8 114 rfl rfl, in_X12, (by decide +kernel)⟩
theorem cv_X12_meet : CV yX12_meet cX12_meet 4 (some .boolean) 3 12 := ⟨cal_X12_meet, ⟨gt8 113 rfl rfl, gtp 69 rfl rfl⟩, RX12, TX12, 59, cl12, rfl⟩
theorem cal_X12_wish : Cal yX12_wish cX12_wish 5 (some .int) 3 := ⟨gt8 118 rfl rfl, in_X12, (by decide +kernel)⟩
theorem cv_X12_wish : CV yX12_wish cX12_wish 5 (some .int) 3 12 := ⟨cal_X12_wish, ⟨gt8 116 rfl rfl, gt8 117 rfl rfl⟩, RX12, TX12, 59, cl12, rfl⟩
theorem cal_X12_train : Cal yX12_train cX12_train 3 (some .int) 1 := ⟨gt8 123 rfl rfl, in_X12, (by decide +kernel)⟩
theorem cv_X12_train : CV yX12_train cX12_train 3 (some .int) 1 12 := ⟨cal_X12_train, ⟨gt8 121 rfl rfl, gt8 122 rfl rfl⟩, RX12, TX12, 59, cl12, rfl⟩
theorem cal_X12_sheet : Cal yX12_sheet cX12_sheet 9 (some .int) 4 := ⟨gt8 128 rfl rfl, in_X12, (by decide +kernel)⟩
theorem cv_X12_sheet : CV yX12_sheet cX12_sheet 9 (some .int) 4 12 := ⟨cal_X12_sheet, ⟨gt8 126 rfl rfl, gt8 127 rfl rfl⟩, RX12, TX12, 59, cl12, rfl⟩
theorem cal_X12_undo : Cal yX12_undo cX12_undo 2 (some .int) 0 := ⟨gt8 133 rfl rfl, in_X12, (by decide +kernel)⟩
theorem cv_X12_undo : CV yX12_undo cX12_undo 2 (some .int) 0 12 := ⟨cal_X12_undo, ⟨gt8 131 rfl rfl, gt8 132 rfl rfl⟩, RX12, TX12, 59, cl12, rfl⟩
theorem cal_X12_may : Cal yX12_may cX12_may 4 (some .int) 3 := ⟨gt8 137 rfl rfl, in_X12, (by decide +kernel)⟩
theorem cv_X12_may : CV yX12_may cX12_may 4 (some .int) 3 12 := ⟨cal_X12_may, ⟨gt8 135 rfl rfl, gt8 136 rfl rfl⟩, RX12, TX12, 59, cl12, rfl⟩
theorem cal_X12_canAsk : Cal yX12_canAsk cX12_canAsk 4 (some .boolean) 3 := ⟨gt8 141 rfl rfl, in_X12, (by decide +kernel)⟩
theorem cv_X12_canAsk : CV yX12_canAsk cX12_canAsk 4 (some .boolean) 3 12 := ⟨cal_X12_canAsk, ⟨gt8 140 rfl rfl, gtp 70 rfl rfl⟩, RX12, TX12, 59, cl12, rfl⟩
theorem cal_X12_mayNot : Cal yX12_mayNot cX12_mayNot 5 (some .int) 3 := ⟨gt8 145 rfl rfl, in_X12, (by decide +kernel)⟩
theorem cv_X12_mayNot : CV yX12_mayNot cX12_mayNot 5 (some .int) 3 12 := ⟨cal_X12_mayNot, ⟨gt8 144 rfl rfl, gtp 71 rfl rfl⟩, RX12, TX12, 59, cl12, rfl⟩
theorem cal_X12_isNoWorse : Cal yX12_isNoWorse cX12_isNoWorse 3 (some .boolean) 0 := ⟨gt8 149 rfl rfl, in_X12, (by decide +kernel)⟩
theorem cv_X12_isNoWorse : CV yX12_isNoWorse cX12_isNoWorse 3 (some .boolean) 0 12 := ⟨cal_X12_isNoWorse, ⟨gt8 148 rfl rfl, gtp 72 rfl rfl⟩, RX12, TX12, 59, cl12, rfl⟩
theorem cal_X12_isWatched : Cal yX12_isWatched cX12_isWatched 3 (some .boolean) 2 := ⟨gt8 153 rfl rfl, in_X12, (by decide +kernel)⟩
theorem cv_X12_isWatched : CV yX12_isWatched cX12_isWatched 3 (some .boolean) 2 12 := ⟨cal_X12_isWatched, ⟨gt8 152 rfl rfl, gtp 73 rfl rfl⟩, RX12, TX12, 59, cl12, rfl⟩
theorem cal_X12_seersIn : Cal yX12_seersIn cX12_seersIn 5 (some .int) 2 := ⟨gt8 157 rfl rfl, in_X12, (by decide +kernel)⟩
theorem cv_X12_seersIn : CV yX12_seersIn cX12_seersIn 5 (some .int) 2 12 := ⟨cal_X12_seersIn, ⟨gt8 156 rfl rfl, gtp 74 rfl rfl⟩, RX12, TX12, 59, cl12, rfl⟩
theorem cal_X12_isThere : Cal yX12_isThere cX12_isThere 5 (some .boolean) 3 := ⟨gt8 161 rfl rfl, in_X12, (by decide +kernel)⟩
theorem cv_X12_isThere : CV yX12_isThere cX12_isThere 5 (some .boolean) 3 12 := ⟨cal_X12_isThere, ⟨gt8 160 rfl rfl, gtp 75 rfl rfl⟩, RX12, TX12, 59, cl12, rfl⟩
theorem cal_X12_go : Cal yX12_go cX12_go 5 (some .int) 3 := ⟨gt8 165 rfl rfl, in_X12, (by decide +kernel)⟩
theorem cv_X12_go : CV yX12_go cX12_go 5 (some .int) 3 12 := ⟨cal_X12_go, ⟨gt8 163 rfl rfl, gt8 164 rfl rfl⟩, RX12, TX12, 59, cl12, rfl⟩
theorem cal_X12_goes : Cal yX12_goes cX12_goes 4 (some .int) 3 := ⟨gt8 169 rfl rfl, in_X12, (by decide +kernel)⟩
theorem cv_X12_goes : CV yX12_goes cX12_goes 4 (some .int) 3 12 := ⟨cal_X12_goes, ⟨gt8 168 rfl rfl, gtp 76 rfl rfl⟩, RX12, TX12, 59, cl12, rfl⟩
theorem cal_X12_pair : Cal yX12_pair cX12_pair 5 (some .int) 4 := ⟨gt8 173 rfl rfl, in_X12, (by decide +kernel)⟩
theorem cv_X12_pair : CV yX12_pair cX12_pair 5 (some .int) 4 12 := ⟨cal_X12_pair, ⟨gt8 171 rfl rfl, gt8 172 rfl rfl⟩, RX12, TX12, 59, cl12, rfl⟩
theorem cal_X12_strike : Cal yX12_strike cX12_strike 3 (some .int) 1 := ⟨gt8 177 rfl rfl, in_X12, (by decide +kernel)⟩
theorem cv_X12_strike : CV yX12_strike cX12_strike 3 (some .int) 1 12 := ⟨cal_X12_strike, ⟨gt8 175 rfl rfl, gt8 176 rfl rfl⟩, RX12, TX12, 59, cl12, rfl⟩
theorem cal_X12_strikes : Cal yX12_strikes cX12_strikes 2 (some .int) 1 := ⟨gt8 181 rfl rfl, in_X12, (by decide +kernel)⟩
theorem cv_X12_strikes : CV yX12_strikes cX12_strikes 2 (some .int) 1 12 := ⟨cal_X12_strikes, ⟨gt8 180 rfl rfl, gtp 77 rfl rfl⟩, RX12, TX12, 59, cl12, rfl⟩
theorem cal_X12_leaves : Cal yX12_leaves cX12_leaves 3 none 2 := ⟨gt8 184 rfl rfl, in_X12, (by decide +kernel)⟩
theorem cs_X12_leaves : CSt yX12_leaves cX12_leaves 3 none 2 := ⟨cal_X12_leaves, gt8 183 rfl rfl⟩
theorem cal_X12_shift : Cal yX12_shift cX12_shift 4 (some .int) 2 := ⟨gt8 188 rfl rfl, in_X12, (by decide +kernel)⟩
theorem cv_X12_shift : CV yX12_shift cX12_shift 4 (some .int) 2 12 := ⟨cal_X12_shift, ⟨gt8 186 rfl rfl, gt8 187 rfl rfl⟩, RX12, TX12, 59, cl12, rfl⟩
theorem cal_X12_shifts : Cal yX12_shifts cX12_shifts 4 (some .int) 2 := ⟨gt8 192 rfl rfl, in_X12, (by decide +kernel)⟩
theorem cv_X12_shifts : CV yX12_shifts cX12_shifts 4 (some .int) 2 12 := ⟨cal_X12_shifts, ⟨gt8 191 rfl rfl, gtp 78 rfl rfl⟩, RX12, TX12, 59, cl12, rfl⟩
theorem cal_X12_afternoon : Cal yX12_afternoon cX12_afternoon 6 (some .int) 0 := ⟨gt8 197 rfl rfl, in_X12, (by decide +kernel)⟩
theorem cv_X12_afternoon : CV yX12_afternoon cX12_afternoon 6 (some .int) 0 12 := ⟨cal_X12_afternoon, ⟨gt8 195 rfl rfl, gt8 196 rfl rfl⟩, RX12, TX12, 59, cl12, rfl⟩
theorem cal_X12_readsAct : Cal yX12_readsAct cX12_readsAct 4 (some .boolean) 0 := ⟨gt8 201 rfl rfl, in_X12, (by decide +kernel)⟩
theorem cv_X12_readsAct : CV yX12_readsAct cX12_readsAct 4 (some .boolean) 0 12 := ⟨cal_X12_readsAct, ⟨gt8 200 rfl rfl, gtp 79 rfl rfl⟩, RX12, TX12, 59, cl12, rfl⟩
theorem cal_X12_does : Cal yX12_does cX12_does 3 (some .boolean) 1 := ⟨gt8 206 rfl rfl, in_X12, (by decide +kernel)⟩
theorem cv_X12_does : CV yX12_does cX12_does 3 (some .boolean) 1 12 := ⟨cal_X12_does, ⟨gt8 205 rfl rfl, gtp 80 rfl rfl⟩, RX12, TX12, 59, cl12, rfl⟩
theorem cal_X12_enters : Cal yX12_enters cX12_enters 3 none 1 := ⟨gt8 210 rfl rfl, in_X12, (by decide +kernel)⟩
theorem cv_X12_enters : CV yX12_enters cX12_enters 3 none 1 12 := ⟨cal_X12_enters, ⟨gt8 209 rfl rfl, gtp 81 rfl rfl⟩, RX12, TX12, 59, cl12, rfl⟩
theorem cal_X12_worthAll : Cal yX12_worthAll cX12_worthAll 4 (some .int) 1 := ⟨gt8 214 rfl rfl, in_X12, (by decide +kernel)⟩
theorem cv_X12_worthAll : CV yX12_worthAll cX12_worthAll 4 (some .int) 1 12 := ⟨cal_X12_worthAll, ⟨gt8 213 rfl rfl, gtp 82 rfl rfl⟩, RX12, TX12, 59, cl12, rfl⟩
theorem cal_X12_alone : Cal yX12_alone cX12_alone 8 (some .int) 0 := ⟨gt8 218 rfl rfl, in_X12, (by decide +kernel)⟩
theorem cv_X12_alone : CV yX12_alone cX12_alone 8 (some .int) 0 12 := ⟨cal_X12_alone, ⟨gt8 216 rfl rfl, gt8 217 rfl rfl⟩, RX12, TX12, 59, cl12, rfl⟩
theorem cal_X12_bench : Cal yX12_bench cX12_bench 4 (some .int) 1 := ⟨gt8 222 rfl rfl, in_X12, (by decide +kernel)⟩
theorem cv_X12_bench : CV yX12_bench cX12_bench 4 (some .int) 1 12 := ⟨cal_X12_bench, ⟨gt8 220 rfl rfl, gt8 221 rfl rfl⟩, RX12, TX12, 59, cl12, rfl⟩
theorem cal_X12_isMinute : Cal yX12_isMinute cX12_isMinute 2 (some .boolean) 1 := ⟨gt8 226 rfl rfl, in_X12, (by decide +kernel)⟩
theorem cv_X12_isMinute : CV yX12_isMinute cX12_isMinute 2 (some .boolean) 1 12 := ⟨cal_X12_isMinute, ⟨gt8 225 rfl rfl, gtp 83 rfl rfl⟩, RX12, TX12, 59, cl12, rfl⟩
theorem cal_X12_worth : Cal yX12_worth cX12_worth 4 (some .int) 0 := ⟨gt8 230 rfl rfl, in_X12, (by decide +kernel)⟩
theorem cv_X12_worth : CV yX12_worth cX12_worth 4 (some .int) 0 12 := ⟨cal_X12_worth, ⟨gt8 228 rfl rfl, gt8 229 rfl rfl⟩, RX12, TX12, 59, cl12, rfl⟩
theorem cal_X12_stays : Cal yX12_stays cX12_stays 4 (some .int) 0 := ⟨gt8 234 rfl rfl, in_X12, (by decide +kernel)⟩
theorem cv_X12_stays : CV yX12_stays cX12_stays 4 (some .int) 0 12 := ⟨cal_X12_stays, ⟨gt8 232 rfl rfl, gt8 233 rfl rfl⟩, RX12, TX12, 59, cl12, rfl⟩
theorem cal_X12_benchLong : Cal yX12_benchLong cX12_benchLong 4 (some .int) 1 := ⟨gt8 238 rfl rfl, in_X12, (by decide +kernel)⟩
theorem cv_X12_benchLong : CV yX12_benchLong cX12_benchLong 4 (some .int) 1 12 := ⟨cal_X12_benchLong, ⟨gt8 237 rfl rfl, gtp 84 rfl rfl⟩, RX12, TX12, 59, cl12, rfl⟩
theorem cal_X12_stuck : Cal yX12_stuck cX12_stuck 9 (some .int) 0 := ⟨gt9 2 rfl rfl, in_X12, (by decide +kernel)⟩
theorem cv_X12_stuck : CV yX12_stuck cX12_stuck 9 (some .int) 0 12 := ⟨cal_X12_stuck, ⟨gt9 0 rfl rfl, gt9 1 rfl rfl⟩, RX12, TX12, 59, cl12, rfl⟩
theorem cal_X12_hands : Cal yX12_hands cX12_hands 4 (some .int) 2 := ⟨gt9 8 rfl rfl, in_X12, (by decide +kernel)⟩
theorem cv_X12_hands : CV yX12_hands cX12_hands 4 (some .int) 2 12 := ⟨cal_X12_hands, ⟨gt9 6 rfl rfl, gt9 7 rfl rfl⟩, RX12, TX12, 59, cl12, rfl⟩
theorem cal_X12_earliest : Cal yX12_earliest cX12_earliest 3 (some .int) 2 := ⟨gt9 13 rfl rfl, in_X12, (by decide +kernel)⟩
theorem cv_X12_earliest : CV yX12_earliest cX12_earliest 3 (some .int) 2 12 := ⟨cal_X12_earliest, ⟨gt9 11 rfl rfl, gt9 12 rfl rfl⟩, RX12, TX12, 59, cl12, rfl⟩
theorem cal_X12_earliestFor : Cal yX12_earliestFor cX12_earliestFor 4 (some .int) 2 := ⟨gt9 17 rfl rfl, in_X12, (by decide +kernel)⟩
theorem cv_X12_earliestFor : CV yX12_earliestFor cX12_earliestFor 4 (some .int) 2 12 := ⟨cal_X12_earliestFor, ⟨gt9 16 rfl rfl, gtp 85 rfl rfl⟩, RX12, TX12, 59, cl12, rfl⟩
theorem cal_X12_tellsBack : Cal yX12_tellsBack cX12_tellsBack 3 (some .int) 2 := ⟨gt9 21 rfl rfl, in_X12, (by decide +kernel)⟩
theorem cv_X12_tellsBack : CV yX12_tellsBack cX12_tellsBack 3 (some .int) 2 12 := ⟨cal_X12_tellsBack, ⟨gt9 20 rfl rfl, gtp 86 rfl rfl⟩, RX12, TX12, 59, cl12, rfl⟩
theorem cal_X12_latest : Cal yX12_latest cX12_latest 3 (some .int) 2 := ⟨gt9 25 rfl rfl, in_X12, (by decide +kernel)⟩
theorem cv_X12_latest : CV yX12_latest cX12_latest 3 (some .int) 2 12 := ⟨cal_X12_latest, ⟨gt9 23 rfl rfl, gt9 24 rfl rfl⟩, RX12, TX12, 59, cl12, rfl⟩
theorem cal_X12_latestFor : Cal yX12_latestFor cX12_latestFor 4 (some .int) 2 := ⟨gt9 29 rfl rfl, in_X12, (by decide +kernel)⟩
theorem cv_X12_latestFor : CV yX12_latestFor cX12_latestFor 4 (some .int) 2 12 := ⟨cal_X12_latestFor, ⟨gt9 28 rfl rfl, gtp 87 rfl rfl⟩, RX12, TX12, 59, cl12, rfl⟩
theorem cal_X12_best : Cal yX12_best cX12_best 8 (some .int) 1 := ⟨gt9 33 rfl rfl, in_X12, (by decide +kernel)⟩
theorem cv_X12_best : CV yX12_best cX12_best 8 (some .int) 1 12 := ⟨cal_X12_best, ⟨gt9 31 rfl rfl, gt9 32 rfl rfl⟩, RX12, TX12, 59, cl12, rfl⟩
theorem cal_X12_most : Cal yX12_most cX12_most 3 (some .int) 1 := ⟨gt9 37 rfl rfl, in_X12, (by decide +kernel)⟩
theorem cv_X12_most : CV yX12_most cX12_most 3 (some .int) 1 12 := ⟨cal_X12_most, ⟨gt9 35 rfl rfl, gt9 36 rfl rfl⟩, RX12, TX12, 59, cl12, rfl⟩
theorem cal_X12_putsIn : Cal yX12_putsIn cX12_putsIn 8 none 3 := ⟨gt9 41 rfl rfl, in_X12, (by decide +kernel)⟩
theorem cv_X12_putsIn : CV yX12_putsIn cX12_putsIn 8 none 3 12 := ⟨cal_X12_putsIn, ⟨gt9 40 rfl rfl, gtp 88 rfl rfl⟩, RX12, TX12, 59, cl12, rfl⟩
theorem cal_X12_open : Cal yX12_open cX12_open 7 (some .int) 0 := ⟨gt9 45 rfl rfl, in_X12, (by decide +kernel)⟩
theorem cv_X12_open : CV yX12_open cX12_open 7 (some .int) 0 12 := ⟨cal_X12_open, ⟨gt9 43 rfl rfl, gt9 44 rfl rfl⟩, RX12, TX12, 59, cl12, rfl⟩
theorem cal_X12_mend : Cal yX12_mend cX12_mend 3 (some .int) 0 := ⟨gt9 49 rfl rfl, in_X12, (by decide +kernel)⟩
theorem cv_X12_mend : CV yX12_mend cX12_mend 3 (some .int) 0 12 := ⟨cal_X12_mend, ⟨gt9 47 rfl rfl, gt9 48 rfl rfl⟩, RX12, TX12, 59, cl12, rfl⟩
theorem cal_X12_strikesMore : Cal yX12_strikesMore cX12_strikesMore 5 (some .boolean) 3 := ⟨gt9 53 rfl rfl, in_X12, (by decide +kernel)⟩
theorem cv_X12_strikesMore : CV yX12_strikesMore cX12_strikesMore 5 (some .boolean) 3 12 := ⟨cal_X12_strikesMore, ⟨gt9 52 rfl rfl, gtp 89 rfl rfl⟩, RX12, TX12, 59, cl12, rfl⟩
theorem cal_X12_isFine : Cal yX12_isFine cX12_isFine 4 (some .boolean) 1 := ⟨gt9 57 rfl rfl, in_X12, (by decide +kernel)⟩
theorem cv_X12_isFine : CV yX12_isFine cX12_isFine 4 (some .boolean) 1 12 := ⟨cal_X12_isFine, ⟨gt9 56 rfl rfl, gtp 90 rfl rfl⟩, RX12, TX12, 59, cl12, rfl⟩
theorem cal_X12_parts : Cal yX12_parts cX12_parts 6 (some .int) 0 := ⟨gt9 61 rfl rfl, in_X12, (by decide +kernel)⟩
theorem cv_X12_parts : CV yX12_parts cX12_parts 6 (some .int) 0 12 := ⟨cal_X12_parts, ⟨gt9 59 rfl rfl, gt9 60 rfl rfl⟩, RX12, TX12, 59, cl12, rfl⟩
theorem cal_X12_turn : Cal yX12_turn cX12_turn 8 (some .int) 0 := ⟨gt9 65 rfl rfl, in_X12, (by decide +kernel)⟩
theorem cv_X12_turn : CV yX12_turn cX12_turn 8 (some .int) 0 12 := ⟨cal_X12_turn, ⟨gt9 63 rfl rfl, gt9 64 rfl rfl⟩, RX12, TX12, 59, cl12, rfl⟩
theorem cal_X12_lockers : Cal yX12_lockers cX12_lockers 6 (some .int) 1 := ⟨gt9 69 rfl rfl, in_X12, (by decide +kernel)⟩
theorem cv_X12_lockers : CV yX12_lockers cX12_lockers 6 (some .int) 1 12 := ⟨cal_X12_lockers, ⟨gt9 67 rfl rfl, gt9 68 rfl rfl⟩, RX12, TX12, 59, cl12, rfl⟩
theorem cal_X12_readsBags : Cal yX12_readsBags cX12_readsBags 1 (some .int) 0 := ⟨gt9 74 rfl rfl, in_X12, (by decide +kernel)⟩
theorem cv_X12_readsBags : CV yX12_readsBags cX12_readsBags 1 (some .int) 0 12 := ⟨cal_X12_readsBags, ⟨gt9 73 rfl rfl, gtp 91 rfl rfl⟩, RX12, TX12, 59, cl12, rfl⟩
theorem cal_X12_canPack : Cal yX12_canPack cX12_canPack 5 (some .boolean) 3 := ⟨gt9 79 rfl rfl, in_X12, (by decide +kernel)⟩
theorem cv_X12_canPack : CV yX12_canPack cX12_canPack 5 (some .boolean) 3 12 := ⟨cal_X12_canPack, ⟨gt9 78 rfl rfl, gtp 92 rfl rfl⟩, RX12, TX12, 59, cl12, rfl⟩
theorem cal_X12_packs : Cal yX12_packs cX12_packs 7 (some .boolean) 4 := ⟨gt9 83 rfl rfl, in_X12, (by decide +kernel)⟩
theorem cv_X12_packs : CV yX12_packs cX12_packs 7 (some .boolean) 4 12 := ⟨cal_X12_packs, ⟨gt9 82 rfl rfl, gtp 93 rfl rfl⟩, RX12, TX12, 59, cl12, rfl⟩
theorem cal_X12_left : Cal yX12_left cX12_left 9 (some .int) 2 := ⟨gt9 87 rfl rfl, in_X12, (by decide +kernel)⟩
theorem cv_X12_left : CV yX12_left cX12_left 9 (some .int) 2 12 := ⟨cal_X12_left, ⟨gt9 85 rfl rfl, gt9 86 rfl rfl⟩, RX12, TX12, 59, cl12, rfl⟩
theorem cal_X12_sizeOf : Cal yX12_sizeOf cX12_sizeOf 4 (some .int) 1 := ⟨gt9 92 rfl rfl, in_X12, (by decide +kernel)⟩
theorem cv_X12_sizeOf : CV yX12_sizeOf cX12_sizeOf 4 (some .int) 1 12 := ⟨cal_X12_sizeOf, ⟨gt9 91 rfl rfl, gtp 94 rfl rfl⟩, RX12, TX12, 59, cl12, rfl⟩
theorem cal_X12_slack : Cal yX12_slack cX12_slack 2 (some .int) 1 := ⟨gt9 96 rfl rfl, in_X12, (by decide +kernel)⟩
theorem cv_X12_slack : CV yX12_slack cX12_slack 2 (some .int) 1 12 := ⟨cal_X12_slack, ⟨gt9 94 rfl rfl, gt9 95 rfl rfl⟩, RX12, TX12, 59, cl12, rfl⟩
theorem cal_X12_isLawful : Cal yX12_isLawful cX12_isLawful 2 (some .boolean) 1 := ⟨gt9 100 rfl rfl, in_X12, (by decide +kernel)⟩
theorem cv_X12_isLawful : CV yX12_isLawful cX12_isLawful 2 (some .boolean) 1 12 := ⟨cal_X12_isLawful, ⟨gt9 99 rfl rfl, gtp 95 rfl rfl⟩, RX12, TX12, 59, cl12, rfl⟩
theorem cal_X12_slackOf : Cal yX12_slackOf cX12_slackOf 5 (some .int) 1 := ⟨gt9 104 rfl rfl, in_X12, (by decide +kernel)⟩
theorem cv_X12_slackOf : CV yX12_slackOf cX12_slackOf 5 (some .int) 1 12 := ⟨cal_X12_slackOf, ⟨gt9 103 rfl rfl, gtp 96 rfl rfl⟩, RX12, TX12, 59, cl12, rfl⟩
theorem cal_X12_tight : Cal yX12_tight cX12_tight 4 (some .int) 0 := ⟨gt9 108 rfl rfl, in_X12, (by decide +kernel)⟩
theorem cv_X12_tight : CV yX12_tight cX12_tight 4 (some .int) 0 12 := ⟨cal_X12_tight, ⟨gt9 106 rfl rfl, gt9 107 rfl rfl⟩, RX12, TX12, 59, cl12, rfl⟩
theorem cal_X12_chance : Cal yX12_chance cX12_chance 9 (some .int) 2 := ⟨gt9 112 rfl rfl, in_X12, (by decide +kernel)⟩
theorem cv_X12_chance : CV yX12_chance cX12_chance 9 (some .int) 2 12 := ⟨cal_X12_chance, ⟨gt9 110 rfl rfl, gt9 111 rfl rfl⟩, RX12, TX12, 59, cl12, rfl⟩
theorem cal_X12_common : Cal yX12_common cX12_common 4 (some .long) 2 := ⟨gt9 116 rfl rfl, in_X12, (by decide +kernel)⟩
theorem cs_X12_common : CSt yX12_common cX12_common 4 (some .long) 2 := ⟨cal_X12_common, gt9 115 rfl rfl⟩
theorem cal_X12_seen : Cal yX12_seen cX12_seen 4 (some .int) 3 := ⟨gt9 120 rfl rfl, in_X12, (by decide +kernel)⟩
theorem cv_X12_seen : CV yX12_seen cX12_seen 4 (some .int) 3 12 := ⟨cal_X12_seen, ⟨gt9 118 rfl rfl, gt9 119 rfl rfl⟩, RX12, TX12, 59, cl12, rfl⟩
theorem cal_X12_forget : Cal yX12_forget cX12_forget 2 (some .int) 0 := ⟨gt9 124 rfl rfl, in_X12, (by decide +kernel)⟩
theorem cv_X12_forget : CV yX12_forget cX12_forget 2 (some .int) 0 12 := ⟨cal_X12_forget, ⟨gt9 122 rfl rfl, gt9 123 rfl rfl⟩, RX12, TX12, 59, cl12, rfl⟩
theorem cal_X12_fits : Cal yX12_fits cX12_fits 4 (some .int) 0 := ⟨gt9 128 rfl rfl, in_X12, (by decide +kernel)⟩
theorem cv_X12_fits : CV yX12_fits cX12_fits 4 (some .int) 0 12 := ⟨cal_X12_fits, ⟨gt9 126 rfl rfl, gt9 127 rfl rfl⟩, RX12, TX12, 59, cl12, rfl⟩
theorem cal_X12_since : Cal yX12_since cX12_since 7 (some .int) 2 := ⟨gt9 132 rfl rfl, in_X12, (by decide +kernel)⟩
theorem cv_X12_since : CV yX12_since cX12_since 7 (some .int) 2 12 := ⟨cal_X12_since, ⟨gt9 130 rfl rfl, gt9 131 rfl rfl⟩, RX12, TX12, 59, cl12, rfl⟩
theorem cal_X12_canHaveGone : Cal yX12_canHaveGone cX12_canHaveGone 6 (some .boolean) 3 := ⟨gt9 136 rfl rfl, in_X12, (by decide +kernel)⟩
theorem cv_X12_canHaveGone : CV yX12_canHaveGone cX12_canHaveGone 6 (some .boolean) 3 12 := ⟨cal_X12_canHaveGone, ⟨gt9 135 rfl rfl, gtp 97 rfl rfl⟩, RX12, TX12, 59, cl12, rfl⟩
theorem cal_X12_stayed : Cal yX12_stayed cX12_stayed 4 (some .int) 1 := ⟨gt9 140 rfl rfl, in_X12, (by decide +kernel)⟩
theorem cv_X12_stayed : CV yX12_stayed cX12_stayed 4 (some .int) 1 12 := ⟨cal_X12_stayed, ⟨gt9 138 rfl rfl, gt9 139 rfl rfl⟩, RX12, TX12, 59, cl12, rfl⟩
theorem cal_X12_journey : Cal yX12_journey cX12_journey 10 (some .int) 3 := ⟨gt9 145 rfl rfl, in_X12, (by decide +kernel)⟩
theorem cv_X12_journey : CV yX12_journey cX12_journey 10 (some .int) 3 12 := ⟨cal_X12_journey, ⟨gt9 143 rfl rfl, gt9 144 rfl rfl⟩, RX12, TX12, 59, cl12, rfl⟩
theorem cal_X12_keep : Cal yX12_keep cX12_keep 3 (some .boolean) 1 := ⟨gt9 151 rfl rfl, in_X12, (by decide +kernel)⟩
theorem cv_X12_keep : CV yX12_keep cX12_keep 3 (some .boolean) 1 12 := ⟨cal_X12_keep, ⟨gt9 149 rfl rfl, gt9 150 rfl rfl⟩, RX12, TX12, 59, cl12, rfl⟩
theorem cal_X12_again : Cal yX12_again cX12_again 3 (some .boolean) 1 := ⟨gt9 155 rfl rfl, in_X12, (by decide +kernel)⟩
theorem cv_X12_again : CV yX12_again cX12_again 3 (some .boolean) 1 12 := ⟨cal_X12_again, ⟨gt9 153 rfl rfl, gt9 154 rfl rfl⟩, RX12, TX12, 59, cl12, rfl⟩
theorem cal_X12_count : Cal yX12_count cX12_count 2 (some .int) 1 := ⟨gt9 159 rfl rfl, in_X12, (by decide +kernel)⟩
theorem cv_X12_count : CV yX12_count cX12_count 2 (some .int) 1 12 := ⟨cal_X12_count, ⟨gt9 157 rfl rfl, gt9 158 rfl rfl⟩, RX12, TX12, 59, cl12, rfl⟩
theorem cal_X12_shyOnes : Cal yX12_shyOnes cX12_shyOnes 3 (some .int) 0 := ⟨gt9 163 rfl rfl, in_X12, (by decide +kernel)⟩
theorem cv_X12_shyOnes : CV yX12_shyOnes cX12_shyOnes 3 (some .int) 0 12 := ⟨cal_X12_shyOnes, ⟨gt9 162 rfl rfl, gtp 98 rfl rfl⟩, RX12, TX12, 59, cl12, rfl⟩
theorem cal_X12_row : Cal yX12_row cX12_row 2 (some .long) 1 := ⟨gt9 167 rfl rfl, in_X12, (by decide +kernel)⟩
theorem cv_X12_row : CV yX12_row cX12_row 2 (some .long) 1 12 := ⟨cal_X12_row, ⟨gt9 165 rfl rfl, gt9 166 rfl rfl⟩, RX12, TX12, 59, cl12, rfl⟩
theorem wCopy : Cond.native arraycopyName ∈ gtbl ∧ Cond.static arraycopyName ∈ gtbl ∧ Cond.initialized "java/lang/System" ∈ gtbl := ⟨gt3 170 rfl rfl, gt3 169 rfl rfl, gt1 21 rfl rfl⟩
theorem wObj : Cond.instanceMethod objectInit ∈ gtbl ∧ Cond.code objectInit ⟨#[0xb1]⟩ 1 none ∈ gtbl := ⟨gt1 33 rfl rfl, gt1 34 rfl rfl⟩
theorem w_max : mathW Lib.Math.max.name Lib.Math.max.code 2 := ⟨gt3 107 rfl rfl, gt1 15 rfl rfl, gt3 108 rfl rfl⟩
theorem w_min : mathW Lib.Math.min.name Lib.Math.min.code 2 := ⟨gt2 203 rfl rfl, gt1 15 rfl rfl, gt2 204 rfl rfl⟩
theorem w_abs : mathW Lib.Math.abs.name Lib.Math.abs.code 1 := ⟨gt6 40 rfl rfl, gt1 15 rfl rfl, gt6 41 rfl rfl⟩
theorem kk_L_8 : Cond.classLink RL 8 RX11 ∈ gtbl := gt1 27 rfl rfl
theorem kk_X11_7 : Cond.classLink RX11 7 RX10 ∈ gtbl := gt1 35 rfl rfl
theorem kk_X11_16 : Cond.classLink RX11 16 RX6 ∈ gtbl := gt1 59 rfl rfl
theorem kk_X11_23 : Cond.classLink RX11 23 RX9 ∈ gtbl := gt1 75 rfl rfl
theorem kk_X11_30 : Cond.classLink RX11 30 RX5 ∈ gtbl := gt1 153 rfl rfl
theorem kk_X11_40 : Cond.classLink RX11 40 RX1 ∈ gtbl := gt1 171 rfl rfl
theorem kk_X1_11 : Cond.classLink RX1 11 RX2 ∈ gtbl := gt1 177 rfl rfl
theorem kk_X11_52 : Cond.classLink RX11 52 RX7 ∈ gtbl := gt1 228 rfl rfl
theorem kk_X11_59 : Cond.classLink RX11 59 RX3 ∈ gtbl := gt2 19 rfl rfl
theorem kk_X11_68 : Cond.classLink RX11 68 RX4 ∈ gtbl := gt2 61 rfl rfl
theorem kk_X4_11 : Cond.classLink RX4 11 RX5 ∈ gtbl := gt2 67 rfl rfl
theorem kk_X11_75 : Cond.classLink RX11 75 RX8 ∈ gtbl := gt2 87 rfl rfl
theorem kk_X11_84 : Cond.classLink RX11 84 RX0 ∈ gtbl := gt2 110 rfl rfl
theorem kk_L_26 : Cond.classLink RL 26 RX12 ∈ gtbl := gt6 181 rfl rfl
theorem ki_X11 : Cond.instantiable RX11 13 ∈ gtbl := gt1 28 rfl rfl
theorem ki_X10 : Cond.instantiable RX10 5 ∈ gtbl := gt1 36 rfl rfl
theorem ki_X6 : Cond.instantiable RX6 2 ∈ gtbl := gt1 60 rfl rfl
theorem ki_X9 : Cond.instantiable RX9 13 ∈ gtbl := gt1 76 rfl rfl
theorem ki_X5 : Cond.instantiable RX5 2 ∈ gtbl := gt1 154 rfl rfl
theorem ki_X1 : Cond.instantiable RX1 10 ∈ gtbl := gt1 172 rfl rfl
theorem ki_X2 : Cond.instantiable RX2 2 ∈ gtbl := gt1 179 rfl rfl
theorem ki_X7 : Cond.instantiable RX7 8 ∈ gtbl := gt1 229 rfl rfl
theorem ki_X3 : Cond.instantiable RX3 10 ∈ gtbl := gt2 20 rfl rfl
theorem ki_X4 : Cond.instantiable RX4 5 ∈ gtbl := gt2 62 rfl rfl
theorem ki_X8 : Cond.instantiable RX8 5 ∈ gtbl := gt2 88 rfl rfl
theorem ki_X0 : Cond.instantiable RX0 5 ∈ gtbl := gt2 111 rfl rfl
theorem ki_X12 : Cond.instantiable RX12 59 ∈ gtbl := gt6 182 rfl rfl
theorem ka_int : Cond.arrayClass .int ∈ gtbl := gt1 58 rfl rfl
theorem ka_long : Cond.arrayClass .long ∈ gtbl := gt1 74 rfl rfl
theorem ka_boolean : Cond.arrayClass .boolean ∈ gtbl := gt1 152 rfl rfl
theorem ka_byte : Cond.arrayClass .byte ∈ gtbl := gt3 171 rfl rfl
