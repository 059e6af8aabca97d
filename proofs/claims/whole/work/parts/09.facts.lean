/-! facts of fields, classes made, methods, call sites; by the same program -/
theorem n_M : ∀ a, a < 3 → ∀ b, b < 3 → a ≠ b → (F_M a).2.1 ≠ (F_M b).2.1 := by decide +kernel
theorem ft_M_ok : ∀ k, k < 3 → parseFieldDescriptor (F_M k).2.2.1 = some (ft_M k) := by decide +kernel
theorem i_M : ∀ w ∈ u_ws R_M F_M 3, w ∈ zz_g := by decide +kernel
theorem n_S : ∀ a, a < 4 → ∀ b, b < 4 → a ≠ b → (F_S a).2.1 ≠ (F_S b).2.1 := by decide +kernel
theorem ft_S_ok : ∀ k, k < 4 → parseFieldDescriptor (F_S k).2.2.1 = some (ft_S k) := by decide +kernel
theorem i_S : ∀ w ∈ u_ws R_S F_S 4, w ∈ zz_g := by decide +kernel
theorem n_T : ∀ a, a < 3 → ∀ b, b < 3 → a ≠ b → (F_T a).2.1 ≠ (F_T b).2.1 := by decide +kernel
theorem ft_T_ok : ∀ k, k < 3 → parseFieldDescriptor (F_T k).2.2.1 = some (ft_T k) := by decide +kernel
theorem i_T : ∀ w ∈ u_ws R_T F_T 3, w ∈ zz_g := by decide +kernel
theorem n_O : ∀ a, a < 10 → ∀ b, b < 10 → a ≠ b → (F_O a).2.1 ≠ (F_O b).2.1 := by decide +kernel
theorem ft_O_ok : ∀ k, k < 10 → parseFieldDescriptor (F_O k).2.2.1 = some (ft_O k) := by decide +kernel
theorem i_O : ∀ w ∈ u_ws R_O F_O 10, w ∈ zz_g := by decide +kernel
theorem cl_L_8 : Cond.classLink "OverlayTreeLaw" 8 "OverlayTree" ∈ zz_g := zz_in 13 (by decide +kernel) rfl
theorem nd_L_8 : zz_Nd "OverlayTreeLaw" 8 2 3 [.null, .int 0, .null] := ⟨R_T, F_T, ft_T, rfl, i_T, ft_T_ok, cl_L_8, zz_in 14 (by decide +kernel) rfl, zz_in 1 (by decide +kernel) rfl, by decide +kernel⟩
theorem cl_T_9 : Cond.classLink "OverlayTree" 9 "OverlayTree$Mark" ∈ zz_g := zz_in 21 (by decide +kernel) rfl
theorem nd_T_9 : zz_Nd "OverlayTree" 9 0 3 [.int 0, .int 0, .null] := ⟨R_M, F_M, ft_M, rfl, i_M, ft_M_ok, cl_T_9, zz_in 23 (by decide +kernel) rfl, zz_in 2 (by decide +kernel) rfl, by decide +kernel⟩
theorem fd_M_9 : zz_Fd "OverlayTree$Mark" 9 0 0 (.int) false := ⟨R_M, F_M, 3, ft_M, rfl, i_M, by decide, zz_in 28 (by decide +kernel) rfl, ft_M_ok, n_M, by decide +kernel, rfl, fun _ => rfl⟩
theorem fd_S_36 : zz_Fd "OverlayTree$Sight" 36 0 0 (.int) false := ⟨R_M, F_M, 3, ft_M, rfl, i_M, by decide, zz_in 29 (by decide +kernel) rfl, ft_M_ok, n_M, by decide +kernel, rfl, fun h => by cases h⟩
theorem fd_T_111 : zz_Fd "OverlayTree" 111 0 0 (.int) false := ⟨R_M, F_M, 3, ft_M, rfl, i_M, by decide, zz_in 30 (by decide +kernel) rfl, ft_M_ok, n_M, by decide +kernel, rfl, fun h => by cases h⟩
theorem fd_M_15 : zz_Fd "OverlayTree$Mark" 15 0 1 (.int) false := ⟨R_M, F_M, 3, ft_M, rfl, i_M, by decide, zz_in 31 (by decide +kernel) rfl, ft_M_ok, n_M, by decide +kernel, rfl, fun _ => rfl⟩
theorem fd_S_40 : zz_Fd "OverlayTree$Sight" 40 0 1 (.int) false := ⟨R_M, F_M, 3, ft_M, rfl, i_M, by decide, zz_in 32 (by decide +kernel) rfl, ft_M_ok, n_M, by decide +kernel, rfl, fun h => by cases h⟩
theorem fd_T_154 : zz_Fd "OverlayTree" 154 0 1 (.int) false := ⟨R_M, F_M, 3, ft_M, rfl, i_M, by decide, zz_in 33 (by decide +kernel) rfl, ft_M_ok, n_M, by decide +kernel, rfl, fun h => by cases h⟩
theorem fd_M_18 : zz_Fd "OverlayTree$Mark" 18 0 2 (.array (.object "OverlayTree$Mark")) false := ⟨R_M, F_M, 3, ft_M, rfl, i_M, by decide, zz_in 34 (by decide +kernel) rfl, ft_M_ok, n_M, by decide +kernel, rfl, fun _ => rfl⟩
theorem cl_T_22 : Cond.classLink "OverlayTree" 22 "OverlayTree$Sight" ∈ zz_g := zz_in 42 (by decide +kernel) rfl
theorem nd_T_22 : zz_Nd "OverlayTree" 22 1 4 [.null, .null, .null, .null] := ⟨R_S, F_S, ft_S, rfl, i_S, ft_S_ok, cl_T_22, zz_in 44 (by decide +kernel) rfl, zz_in 3 (by decide +kernel) rfl, by decide +kernel⟩
theorem cl_S_18 : Cond.classLink "OverlayTree$Sight" 18 "OverlayTree$Mark" ∈ zz_g := zz_in 49 (by decide +kernel) rfl
theorem nd_S_18 : zz_Nd "OverlayTree$Sight" 18 0 3 [.int 0, .int 0, .null] := ⟨R_M, F_M, ft_M, rfl, i_M, ft_M_ok, cl_S_18, zz_in 23 (by decide +kernel) rfl, zz_in 2 (by decide +kernel) rfl, by decide +kernel⟩
theorem fd_S_9 : zz_Fd "OverlayTree$Sight" 9 1 0 (.array (.int)) true := ⟨R_S, F_S, 4, ft_S, rfl, i_S, by decide, zz_in 50 (by decide +kernel) rfl, ft_S_ok, n_S, by decide +kernel, rfl, fun _ => rfl⟩
theorem fd_S_15 : zz_Fd "OverlayTree$Sight" 15 1 1 (.array (.int)) true := ⟨R_S, F_S, 4, ft_S, rfl, i_S, by decide, zz_in 51 (by decide +kernel) rfl, ft_S_ok, n_S, by decide +kernel, rfl, fun _ => rfl⟩
theorem fd_S_20 : zz_Fd "OverlayTree$Sight" 20 1 2 (.array (.object "OverlayTree$Mark")) true := ⟨R_S, F_S, 4, ft_S, rfl, i_S, by decide, zz_in 52 (by decide +kernel) rfl, ft_S_ok, n_S, by decide +kernel, rfl, fun _ => rfl⟩
theorem fd_S_24 : zz_Fd "OverlayTree$Sight" 24 1 3 (.array (.boolean)) true := ⟨R_S, F_S, 4, ft_S, rfl, i_S, by decide, zz_in 53 (by decide +kernel) rfl, ft_S_ok, n_S, by decide +kernel, rfl, fun _ => rfl⟩
theorem fd_T_11 : zz_Fd "OverlayTree" 11 2 0 (.array (.object "OverlayTree$Mark")) true := ⟨R_T, F_T, 3, ft_T, rfl, i_T, by decide, zz_in 65 (by decide +kernel) rfl, ft_T_ok, n_T, by decide +kernel, rfl, fun _ => rfl⟩
theorem fd_T_18 : zz_Fd "OverlayTree" 18 2 1 (.int) false := ⟨R_T, F_T, 3, ft_T, rfl, i_T, by decide, zz_in 66 (by decide +kernel) rfl, ft_T_ok, n_T, by decide +kernel, rfl, fun _ => rfl⟩
theorem fd_T_24 : zz_Fd "OverlayTree" 24 2 2 (.array (.object "OverlayTree$Sight")) true := ⟨R_T, F_T, 3, ft_T, rfl, i_T, by decide, zz_in 67 (by decide +kernel) rfl, ft_T_ok, n_T, by decide +kernel, rfl, fun _ => rfl⟩
theorem cl_L_13 : Cond.classLink "OverlayTreeLaw" 13 "java/lang/IllegalArgumentException" ∈ zz_g := zz_in 78 (by decide +kernel) rfl
theorem cl_L_15 : Cond.classLink "OverlayTreeLaw" 15 "java/lang/IllegalStateException" ∈ zz_g := zz_in 79 (by decide +kernel) rfl
theorem cl_T_122 : Cond.classLink "OverlayTree" 122 "java/lang/IllegalArgumentException" ∈ zz_g := zz_in 90 (by decide +kernel) rfl
theorem cl_T_51 : Cond.classLink "OverlayTree" 51 "java/lang/IllegalStateException" ∈ zz_g := zz_in 195 (by decide +kernel) rfl
theorem cl_M_10 : Cond.classLink "OverlayTree$Mark" 10 "OverlayTree$Mark" ∈ zz_g := zz_in 221 (by decide +kernel) rfl
theorem nd_M_10 : zz_Nd "OverlayTree$Mark" 10 0 3 [.int 0, .int 0, .null] := ⟨R_M, F_M, ft_M, rfl, i_M, ft_M_ok, cl_M_10, zz_in 23 (by decide +kernel) rfl, zz_in 2 (by decide +kernel) rfl, by decide +kernel⟩
theorem cl_L_25 : Cond.classLink "OverlayTreeLaw" 25 "java/util/NoSuchElementException" ∈ zz_g := zz_in 238 (by decide +kernel) rfl
theorem cl_T_58 : Cond.classLink "OverlayTree" 58 "java/util/NoSuchElementException" ∈ zz_g := zz_in 243 (by decide +kernel) rfl
theorem cl_L_35 : Cond.classLink "OverlayTreeLaw" 35 "java/lang/UnsupportedOperationException" ∈ zz_g := zz_in 295 (by decide +kernel) rfl
theorem cl_T_76 : Cond.classLink "OverlayTree" 76 "java/lang/UnsupportedOperationException" ∈ zz_g := zz_in 300 (by decide +kernel) rfl
theorem cl_L_40 : Cond.classLink "OverlayTreeLaw" 40 "java/lang/IndexOutOfBoundsException" ∈ zz_g := zz_in 319 (by decide +kernel) rfl
theorem cl_T_81 : Cond.classLink "OverlayTree" 81 "java/lang/IndexOutOfBoundsException" ∈ zz_g := zz_in 324 (by decide +kernel) rfl
theorem cl_L_62 : Cond.classLink "OverlayTreeLaw" 62 "OverlayTreeModel" ∈ zz_g := zz_in 408 (by decide +kernel) rfl
theorem nd_L_62 : zz_Nd "OverlayTreeLaw" 62 3 10 [.int 0, .int 0, .null, .null, .null, .null, .null, .int 0, .null, .null] := ⟨R_O, F_O, ft_O, rfl, i_O, ft_O_ok, cl_L_62, zz_in 409 (by decide +kernel) rfl, zz_in 4 (by decide +kernel) rfl, by decide +kernel⟩
theorem fd_O_48 : zz_Fd "OverlayTreeModel" 48 3 0 (.int) false := ⟨R_O, F_O, 10, ft_O, rfl, i_O, by decide, zz_in 424 (by decide +kernel) rfl, ft_O_ok, n_O, by decide +kernel, rfl, fun _ => rfl⟩
theorem fd_O_7 : zz_Fd "OverlayTreeModel" 7 3 1 (.int) false := ⟨R_O, F_O, 10, ft_O, rfl, i_O, by decide, zz_in 425 (by decide +kernel) rfl, ft_O_ok, n_O, by decide +kernel, rfl, fun _ => rfl⟩
theorem fd_O_14 : zz_Fd "OverlayTreeModel" 14 3 2 (.array (.int)) true := ⟨R_O, F_O, 10, ft_O, rfl, i_O, by decide, zz_in 426 (by decide +kernel) rfl, ft_O_ok, n_O, by decide +kernel, rfl, fun _ => rfl⟩
theorem fd_O_18 : zz_Fd "OverlayTreeModel" 18 3 3 (.array (.int)) true := ⟨R_O, F_O, 10, ft_O, rfl, i_O, by decide, zz_in 427 (by decide +kernel) rfl, ft_O_ok, n_O, by decide +kernel, rfl, fun _ => rfl⟩
theorem fd_O_21 : zz_Fd "OverlayTreeModel" 21 3 4 (.array (.int)) true := ⟨R_O, F_O, 10, ft_O, rfl, i_O, by decide, zz_in 428 (by decide +kernel) rfl, ft_O_ok, n_O, by decide +kernel, rfl, fun _ => rfl⟩
theorem fd_O_24 : zz_Fd "OverlayTreeModel" 24 3 5 (.array (.int)) true := ⟨R_O, F_O, 10, ft_O, rfl, i_O, by decide, zz_in 429 (by decide +kernel) rfl, ft_O_ok, n_O, by decide +kernel, rfl, fun _ => rfl⟩
theorem fd_O_27 : zz_Fd "OverlayTreeModel" 27 3 6 (.array (.boolean)) true := ⟨R_O, F_O, 10, ft_O, rfl, i_O, by decide, zz_in 430 (by decide +kernel) rfl, ft_O_ok, n_O, by decide +kernel, rfl, fun _ => rfl⟩
theorem fd_O_41 : zz_Fd "OverlayTreeModel" 41 3 7 (.int) false := ⟨R_O, F_O, 10, ft_O, rfl, i_O, by decide, zz_in 431 (by decide +kernel) rfl, ft_O_ok, n_O, by decide +kernel, rfl, fun _ => rfl⟩
theorem fd_O_31 : zz_Fd "OverlayTreeModel" 31 3 8 (.array (.int)) true := ⟨R_O, F_O, 10, ft_O, rfl, i_O, by decide, zz_in 432 (by decide +kernel) rfl, ft_O_ok, n_O, by decide +kernel, rfl, fun _ => rfl⟩
theorem fd_O_34 : zz_Fd "OverlayTreeModel" 34 3 9 (.array (.int)) true := ⟨R_O, F_O, 10, ft_O, rfl, i_O, by decide, zz_in 433 (by decide +kernel) rfl, ft_O_ok, n_O, by decide +kernel, rfl, fun _ => rfl⟩
set_option maxRecDepth 20000 in
theorem md_T_init : zz_md y_T_init b_T_init 2 none [] 0 := ⟨⟨_, zz_in 17 rfl rfl, zz_cd_code _ _ _ _⟩, zz_in 1 (by decide +kernel) rfl, by decide +kernel, by decide +kernel, by decide +kernel⟩
set_option maxRecDepth 20000 in
theorem cw_T_init : Cond.code y_T_init b_T_init 2 none ∈ zz_g := zz_in 17 rfl rfl
set_option maxRecDepth 20000 in
theorem md_M_init : zz_md y_M_init b_M_init 3 none [] 2 := ⟨⟨_, zz_in 26 rfl rfl, zz_cd_code _ _ _ _⟩, zz_in 2 (by decide +kernel) rfl, by decide +kernel, by decide +kernel, by decide +kernel⟩
set_option maxRecDepth 20000 in
theorem cw_M_init : Cond.code y_M_init b_M_init 3 none ∈ zz_g := zz_in 26 rfl rfl
set_option maxRecDepth 20000 in
theorem md_S_init : zz_md y_S_init b_S_init 1 none [] 0 := ⟨⟨_, zz_in 47 rfl rfl, zz_cd_code _ _ _ _⟩, zz_in 3 (by decide +kernel) rfl, by decide +kernel, by decide +kernel, by decide +kernel⟩
set_option maxRecDepth 20000 in
theorem cw_S_init : Cond.code y_S_init b_S_init 1 none ∈ zz_g := zz_in 47 rfl rfl
set_option maxRecDepth 20000 in
theorem md_L_write : zz_md y_L_write b_L_write 5 (some (.int)) [(0, 17, 20, 13), (0, 17, 24, 15)] 4 := ⟨⟨_, zz_in 77 rfl rfl, zz_cd_with _ _ _ _ _⟩, zz_in 0 (by decide +kernel) rfl, by decide +kernel, by decide +kernel, by decide +kernel⟩
set_option maxRecDepth 20000 in
theorem md_T_write : zz_md y_T_write b_T_write 4 (some (.boolean)) [] 2 := ⟨⟨_, zz_in 83 rfl rfl, zz_cd_code _ _ _ _⟩, zz_in 1 (by decide +kernel) rfl, by decide +kernel, by decide +kernel, by decide +kernel⟩
set_option maxRecDepth 20000 in
theorem md_T_checkBelowRoot : zz_md y_T_checkBelowRoot b_T_checkBelowRoot 1 none [] 1 := ⟨⟨_, zz_in 86 rfl rfl, zz_cd_code _ _ _ _⟩, zz_in 1 (by decide +kernel) rfl, by decide +kernel, by decide +kernel, by decide +kernel⟩
set_option maxRecDepth 20000 in
theorem md_T_isPath : zz_md y_T_isPath b_T_isPath 2 (some (.boolean)) [] 1 := ⟨⟨_, zz_in 89 rfl rfl, zz_cd_code _ _ _ _⟩, zz_in 1 (by decide +kernel) rfl, by decide +kernel, by decide +kernel, by decide +kernel⟩
set_option maxRecDepth 20000 in
theorem md_T_checkWritable : zz_md y_T_checkWritable b_T_checkWritable 2 none [] 1 := ⟨⟨_, zz_in 163 rfl rfl, zz_cd_code _ _ _ _⟩, zz_in 1 (by decide +kernel) rfl, by decide +kernel, by decide +kernel, by decide +kernel⟩
set_option maxRecDepth 20000 in
theorem md_T_checkParent : zz_md y_T_checkParent b_T_checkParent 2 none [] 1 := ⟨⟨_, zz_in 167 rfl rfl, zz_cd_code _ _ _ _⟩, zz_in 1 (by decide +kernel) rfl, by decide +kernel, by decide +kernel, by decide +kernel⟩
set_option maxRecDepth 20000 in
theorem md_T_parentOf : zz_md y_T_parentOf b_T_parentOf 1 (some (.int)) [] 1 := ⟨⟨_, zz_in 170 rfl rfl, zz_cd_code _ _ _ _⟩, zz_in 1 (by decide +kernel) rfl, by decide +kernel, by decide +kernel, by decide +kernel⟩
set_option maxRecDepth 20000 in
theorem md_T_look : zz_md y_T_look b_T_look 6 (some (.object "OverlayTree$Sight")) [] 2 := ⟨⟨_, zz_in 174 rfl rfl, zz_cd_code _ _ _ _⟩, zz_in 1 (by decide +kernel) rfl, by decide +kernel, by decide +kernel, by decide +kernel⟩
set_option maxRecDepth 20000 in
theorem md_S_seeRoot : zz_md y_S_seeRoot b_S_seeRoot 4 none [] 2 := ⟨⟨_, zz_in 178 rfl rfl, zz_cd_code _ _ _ _⟩, zz_in 3 (by decide +kernel) rfl, by decide +kernel, by decide +kernel, by decide +kernel⟩
set_option maxRecDepth 20000 in
theorem md_S_see : zz_md y_S_see b_S_see 6 none [] 3 := ⟨⟨_, zz_in 182 rfl rfl, zz_cd_code _ _ _ _⟩, zz_in 3 (by decide +kernel) rfl, by decide +kernel, by decide +kernel, by decide +kernel⟩
set_option maxRecDepth 20000 in
theorem md_M_at : zz_md y_M_at b_M_at 2 (some (.object "OverlayTree$Mark")) [] 1 := ⟨⟨_, zz_in 186 rfl rfl, zz_cd_code _ _ _ _⟩, zz_in 2 (by decide +kernel) rfl, by decide +kernel, by decide +kernel, by decide +kernel⟩
set_option maxRecDepth 20000 in
theorem md_S_addLayer : zz_md y_S_addLayer b_S_addLayer 4 none [] 2 := ⟨⟨_, zz_in 190 rfl rfl, zz_cd_code _ _ _ _⟩, zz_in 3 (by decide +kernel) rfl, by decide +kernel, by decide +kernel, by decide +kernel⟩
set_option maxRecDepth 20000 in
theorem md_S_kindIn : zz_md y_S_kindIn b_S_kindIn 2 (some (.int)) [] 1 := ⟨⟨_, zz_in 194 rfl rfl, zz_cd_code _ _ _ _⟩, zz_in 3 (by decide +kernel) rfl, by decide +kernel, by decide +kernel, by decide +kernel⟩
set_option maxRecDepth 20000 in
theorem md_T_setMark : zz_md y_T_setMark b_T_setMark 7 none [] 3 := ⟨⟨_, zz_in 215 rfl rfl, zz_cd_code _ _ _ _⟩, zz_in 1 (by decide +kernel) rfl, by decide +kernel, by decide +kernel, by decide +kernel⟩
set_option maxRecDepth 20000 in
theorem md_M_atOrNew : zz_md y_M_atOrNew b_M_atOrNew 3 (some (.object "OverlayTree$Mark")) [] 1 := ⟨⟨_, zz_in 219 rfl rfl, zz_cd_code _ _ _ _⟩, zz_in 2 (by decide +kernel) rfl, by decide +kernel, by decide +kernel, by decide +kernel⟩
set_option maxRecDepth 20000 in
theorem md_M_hang : zz_md y_M_hang b_M_hang 3 none [] 2 := ⟨⟨_, zz_in 226 rfl rfl, zz_cd_code _ _ _ _⟩, zz_in 2 (by decide +kernel) rfl, by decide +kernel, by decide +kernel, by decide +kernel⟩
set_option maxRecDepth 20000 in
theorem md_L_make : zz_md y_L_make b_L_make 3 (some (.int)) [(0, 5, 8, 13), (0, 5, 11, 15)] 2 := ⟨⟨_, zz_in 229 rfl rfl, zz_cd_with _ _ _ _ _⟩, zz_in 0 (by decide +kernel) rfl, by decide +kernel, by decide +kernel, by decide +kernel⟩
set_option maxRecDepth 20000 in
theorem md_T_make : zz_md y_T_make b_T_make 3 none [] 1 := ⟨⟨_, zz_in 233 rfl rfl, zz_cd_code _ _ _ _⟩, zz_in 1 (by decide +kernel) rfl, by decide +kernel, by decide +kernel, by decide +kernel⟩
set_option maxRecDepth 20000 in
theorem md_L_remove : zz_md y_L_remove b_L_remove 4 (some (.int)) [(0, 9, 12, 13), (0, 9, 15, 25)] 3 := ⟨⟨_, zz_in 237 rfl rfl, zz_cd_with _ _ _ _ _⟩, zz_in 0 (by decide +kernel) rfl, by decide +kernel, by decide +kernel, by decide +kernel⟩
set_option maxRecDepth 20000 in
theorem md_T_remove : zz_md y_T_remove b_T_remove 3 (some (.int)) [] 1 := ⟨⟨_, zz_in 242 rfl rfl, zz_cd_code _ _ _ _⟩, zz_in 1 (by decide +kernel) rfl, by decide +kernel, by decide +kernel, by decide +kernel⟩
set_option maxRecDepth 20000 in
theorem md_T_depthOf : zz_md y_T_depthOf b_T_depthOf 3 (some (.int)) [] 1 := ⟨⟨_, zz_in 261 rfl rfl, zz_cd_code _ _ _ _⟩, zz_in 1 (by decide +kernel) rfl, by decide +kernel, by decide +kernel, by decide +kernel⟩
set_option maxRecDepth 20000 in
theorem md_T_countSeen : zz_md y_T_countSeen b_T_countSeen 4 (some (.int)) [] 1 := ⟨⟨_, zz_in 265 rfl rfl, zz_cd_code _ _ _ _⟩, zz_in 1 (by decide +kernel) rfl, by decide +kernel, by decide +kernel, by decide +kernel⟩
set_option maxRecDepth 20000 in
theorem md_T_takeAway : zz_md y_T_takeAway b_T_takeAway 2 none [] 1 := ⟨⟨_, zz_in 269 rfl rfl, zz_cd_code _ _ _ _⟩, zz_in 1 (by decide +kernel) rfl, by decide +kernel, by decide +kernel, by decide +kernel⟩
set_option maxRecDepth 20000 in
theorem md_T_clearMarks : zz_md y_T_clearMarks b_T_clearMarks 5 none [] 1 := ⟨⟨_, zz_in 273 rfl rfl, zz_cd_code _ _ _ _⟩, zz_in 1 (by decide +kernel) rfl, by decide +kernel, by decide +kernel, by decide +kernel⟩
set_option maxRecDepth 20000 in
theorem md_L_move : zz_md y_L_move b_L_move 4 (some (.int)) [(0, 6, 9, 13), (0, 6, 12, 25), (0, 6, 15, 15)] 3 := ⟨⟨_, zz_in 278 rfl rfl, zz_cd_with _ _ _ _ _⟩, zz_in 0 (by decide +kernel) rfl, by decide +kernel, by decide +kernel, by decide +kernel⟩
set_option maxRecDepth 20000 in
theorem md_T_move : zz_md y_T_move b_T_move 4 none [] 2 := ⟨⟨_, zz_in 282 rfl rfl, zz_cd_code _ _ _ _⟩, zz_in 1 (by decide +kernel) rfl, by decide +kernel, by decide +kernel, by decide +kernel⟩
set_option maxRecDepth 20000 in
theorem md_T_fileValue : zz_md y_T_fileValue b_T_fileValue 4 (some (.int)) [] 2 := ⟨⟨_, zz_in 286 rfl rfl, zz_cd_code _ _ _ _⟩, zz_in 1 (by decide +kernel) rfl, by decide +kernel, by decide +kernel, by decide +kernel⟩
set_option maxRecDepth 20000 in
theorem md_S_valueIn : zz_md y_S_valueIn b_S_valueIn 2 (some (.int)) [] 1 := ⟨⟨_, zz_in 291 rfl rfl, zz_cd_code _ _ _ _⟩, zz_in 3 (by decide +kernel) rfl, by decide +kernel, by decide +kernel, by decide +kernel⟩
set_option maxRecDepth 20000 in
theorem md_L_layer : zz_md y_L_layer b_L_layer 3 (some (.int)) [(0, 8, 11, 35)] 2 := ⟨⟨_, zz_in 294 rfl rfl, zz_cd_with _ _ _ _ _⟩, zz_in 0 (by decide +kernel) rfl, by decide +kernel, by decide +kernel, by decide +kernel⟩
set_option maxRecDepth 20000 in
theorem md_T_layer : zz_md y_T_layer b_T_layer 1 (some (.int)) [] 0 := ⟨⟨_, zz_in 299 rfl rfl, zz_cd_code _ _ _ _⟩, zz_in 1 (by decide +kernel) rfl, by decide +kernel, by decide +kernel, by decide +kernel⟩
set_option maxRecDepth 20000 in
theorem md_L_squash : zz_md y_L_squash b_L_squash 4 (some (.int)) [(0, 9, 12, 40)] 3 := ⟨⟨_, zz_in 318 rfl rfl, zz_cd_with _ _ _ _ _⟩, zz_in 0 (by decide +kernel) rfl, by decide +kernel, by decide +kernel, by decide +kernel⟩
set_option maxRecDepth 20000 in
theorem md_T_squash : zz_md y_T_squash b_T_squash 3 (some (.int)) [] 1 := ⟨⟨_, zz_in 323 rfl rfl, zz_cd_code _ _ _ _⟩, zz_in 1 (by decide +kernel) rfl, by decide +kernel, by decide +kernel, by decide +kernel⟩
set_option maxRecDepth 20000 in
theorem md_T_layOver : zz_md y_T_layOver b_T_layOver 8 none [] 4 := ⟨⟨_, zz_in 342 rfl rfl, zz_cd_code _ _ _ _⟩, zz_in 1 (by decide +kernel) rfl, by decide +kernel, by decide +kernel, by decide +kernel⟩
set_option maxRecDepth 20000 in
theorem md_T_loseTop : zz_md y_T_loseTop b_T_loseTop 1 (some (.int)) [] 0 := ⟨⟨_, zz_in 346 rfl rfl, zz_cd_code _ _ _ _⟩, zz_in 1 (by decide +kernel) rfl, by decide +kernel, by decide +kernel, by decide +kernel⟩
set_option maxRecDepth 20000 in
theorem md_L_drop : zz_md y_L_drop b_L_drop 3 (some (.int)) [(0, 8, 11, 35)] 2 := ⟨⟨_, zz_in 349 rfl rfl, zz_cd_with _ _ _ _ _⟩, zz_in 0 (by decide +kernel) rfl, by decide +kernel, by decide +kernel, by decide +kernel⟩
set_option maxRecDepth 20000 in
theorem md_T_drop : zz_md y_T_drop b_T_drop 1 (some (.int)) [] 0 := ⟨⟨_, zz_in 353 rfl rfl, zz_cd_code _ _ _ _⟩, zz_in 1 (by decide +kernel) rfl, by decide +kernel, by decide +kernel, by decide +kernel⟩
set_option maxRecDepth 20000 in
theorem md_L_kind : zz_md y_L_kind b_L_kind 5 (some (.int)) [(0, 10, 13, 13)] 4 := ⟨⟨_, zz_in 357 rfl rfl, zz_cd_with _ _ _ _ _⟩, zz_in 0 (by decide +kernel) rfl, by decide +kernel, by decide +kernel, by decide +kernel⟩
set_option maxRecDepth 20000 in
theorem md_T_kind : zz_md y_T_kind b_T_kind 3 (some (.int)) [] 2 := ⟨⟨_, zz_in 361 rfl rfl, zz_cd_code _ _ _ _⟩, zz_in 1 (by decide +kernel) rfl, by decide +kernel, by decide +kernel, by decide +kernel⟩
set_option maxRecDepth 20000 in
theorem md_T_checkView : zz_md y_T_checkView b_T_checkView 3 none [] 2 := ⟨⟨_, zz_in 365 rfl rfl, zz_cd_code _ _ _ _⟩, zz_in 1 (by decide +kernel) rfl, by decide +kernel, by decide +kernel, by decide +kernel⟩
set_option maxRecDepth 20000 in
theorem md_L_value : zz_md y_L_value b_L_value 5 (some (.int)) [(0, 10, 13, 13), (0, 10, 17, 25)] 4 := ⟨⟨_, zz_in 369 rfl rfl, zz_cd_with _ _ _ _ _⟩, zz_in 0 (by decide +kernel) rfl, by decide +kernel, by decide +kernel, by decide +kernel⟩
set_option maxRecDepth 20000 in
theorem md_T_value : zz_md y_T_value b_T_value 3 (some (.int)) [] 2 := ⟨⟨_, zz_in 373 rfl rfl, zz_cd_code _ _ _ _⟩, zz_in 1 (by decide +kernel) rfl, by decide +kernel, by decide +kernel, by decide +kernel⟩
set_option maxRecDepth 20000 in
theorem md_L_names : zz_md y_L_names b_L_names 5 (some (.int)) [(0, 10, 13, 13), (0, 10, 17, 25)] 4 := ⟨⟨_, zz_in 376 rfl rfl, zz_cd_with _ _ _ _ _⟩, zz_in 0 (by decide +kernel) rfl, by decide +kernel, by decide +kernel, by decide +kernel⟩
set_option maxRecDepth 20000 in
theorem md_T_names : zz_md y_T_names b_T_names 3 (some (.int)) [] 2 := ⟨⟨_, zz_in 380 rfl rfl, zz_cd_code _ _ _ _⟩, zz_in 1 (by decide +kernel) rfl, by decide +kernel, by decide +kernel, by decide +kernel⟩
set_option maxRecDepth 20000 in
theorem md_T_namesSeen : zz_md y_T_namesSeen b_T_namesSeen 5 (some (.int)) [] 2 := ⟨⟨_, zz_in 385 rfl rfl, zz_cd_code _ _ _ _⟩, zz_in 1 (by decide +kernel) rfl, by decide +kernel, by decide +kernel, by decide +kernel⟩
set_option maxRecDepth 20000 in
theorem md_L_mark : zz_md y_L_mark b_L_mark 5 (some (.int)) [(0, 10, 13, 40), (0, 10, 17, 13)] 4 := ⟨⟨_, zz_in 388 rfl rfl, zz_cd_with _ _ _ _ _⟩, zz_in 0 (by decide +kernel) rfl, by decide +kernel, by decide +kernel, by decide +kernel⟩
set_option maxRecDepth 20000 in
theorem md_T_mark : zz_md y_T_mark b_T_mark 5 (some (.int)) [] 2 := ⟨⟨_, zz_in 392 rfl rfl, zz_cd_code _ _ _ _⟩, zz_in 1 (by decide +kernel) rfl, by decide +kernel, by decide +kernel, by decide +kernel⟩
set_option maxRecDepth 20000 in
theorem md_T_checkLayer : zz_md y_T_checkLayer b_T_checkLayer 2 none [] 1 := ⟨⟨_, zz_in 396 rfl rfl, zz_cd_code _ _ _ _⟩, zz_in 1 (by decide +kernel) rfl, by decide +kernel, by decide +kernel, by decide +kernel⟩
set_option maxRecDepth 20000 in
theorem md_L_marks : zz_md y_L_marks b_L_marks 4 (some (.int)) [(0, 9, 12, 40)] 3 := ⟨⟨_, zz_in 400 rfl rfl, zz_cd_with _ _ _ _ _⟩, zz_in 0 (by decide +kernel) rfl, by decide +kernel, by decide +kernel, by decide +kernel⟩
set_option maxRecDepth 20000 in
theorem md_T_marks : zz_md y_T_marks b_T_marks 2 (some (.int)) [] 1 := ⟨⟨_, zz_in 404 rfl rfl, zz_cd_code _ _ _ _⟩, zz_in 1 (by decide +kernel) rfl, by decide +kernel, by decide +kernel, by decide +kernel⟩
set_option maxRecDepth 20000 in
theorem md_T_countMarks : zz_md y_T_countMarks b_T_countMarks 5 (some (.int)) [] 2 := ⟨⟨_, zz_in 407 rfl rfl, zz_cd_code _ _ _ _⟩, zz_in 1 (by decide +kernel) rfl, by decide +kernel, by decide +kernel, by decide +kernel⟩
set_option maxRecDepth 20000 in
theorem md_O_init : zz_md y_O_init b_O_init 2 none [] 0 := ⟨⟨_, zz_in 412 rfl rfl, zz_cd_code _ _ _ _⟩, zz_in 4 (by decide +kernel) rfl, by decide +kernel, by decide +kernel, by decide +kernel⟩
set_option maxRecDepth 20000 in
theorem cw_O_init : Cond.code y_O_init b_O_init 2 none ∈ zz_g := zz_in 412 rfl rfl
set_option maxRecDepth 20000 in
theorem md_O_isPath : zz_md y_O_isPath b_O_isPath 3 (some (.boolean)) [] 1 := ⟨⟨_, zz_in 417 rfl rfl, zz_cd_code _ _ _ _⟩, zz_in 4 (by decide +kernel) rfl, by decide +kernel, by decide +kernel, by decide +kernel⟩
set_option maxRecDepth 20000 in
theorem md_O_in : zz_md y_O_in b_O_in 3 (some (.boolean)) [] 3 := ⟨⟨_, zz_in 420 rfl rfl, zz_cd_code _ _ _ _⟩, zz_in 4 (by decide +kernel) rfl, by decide +kernel, by decide +kernel, by decide +kernel⟩
set_option maxRecDepth 20000 in
theorem md_O_parentOf : zz_md y_O_parentOf b_O_parentOf 2 (some (.int)) [] 1 := ⟨⟨_, zz_in 423 rfl rfl, zz_cd_code _ _ _ _⟩, zz_in 4 (by decide +kernel) rfl, by decide +kernel, by decide +kernel, by decide +kernel⟩
set_option maxRecDepth 20000 in
theorem md_O_thrown : zz_md y_O_thrown b_O_thrown 1 (some (.int)) [] 0 := ⟨⟨_, zz_in 458 rfl rfl, zz_cd_code _ _ _ _⟩, zz_in 4 (by decide +kernel) rfl, by decide +kernel, by decide +kernel, by decide +kernel⟩
set_option maxRecDepth 20000 in
theorem md_O_write : zz_md y_O_write b_O_write 6 (some (.boolean)) [] 2 := ⟨⟨_, zz_in 462 rfl rfl, zz_cd_code _ _ _ _⟩, zz_in 4 (by decide +kernel) rfl, by decide +kernel, by decide +kernel, by decide +kernel⟩
set_option maxRecDepth 20000 in
theorem md_O_look : zz_md y_O_look b_O_look 3 none [] 1 := ⟨⟨_, zz_in 466 rfl rfl, zz_cd_code _ _ _ _⟩, zz_in 4 (by decide +kernel) rfl, by decide +kernel, by decide +kernel, by decide +kernel⟩
set_option maxRecDepth 20000 in
theorem md_O_cover : zz_md y_O_cover b_O_cover 6 none [] 1 := ⟨⟨_, zz_in 470 rfl rfl, zz_cd_code _ _ _ _⟩, zz_in 4 (by decide +kernel) rfl, by decide +kernel, by decide +kernel, by decide +kernel⟩
set_option maxRecDepth 20000 in
theorem md_O_refuse : zz_md y_O_refuse b_O_refuse 4 (some (.boolean)) [] 3 := ⟨⟨_, zz_in 474 rfl rfl, zz_cd_code _ _ _ _⟩, zz_in 4 (by decide +kernel) rfl, by decide +kernel, by decide +kernel, by decide +kernel⟩
set_option maxRecDepth 20000 in
theorem md_O_put : zz_md y_O_put b_O_put 5 none [] 3 := ⟨⟨_, zz_in 478 rfl rfl, zz_cd_code _ _ _ _⟩, zz_in 4 (by decide +kernel) rfl, by decide +kernel, by decide +kernel, by decide +kernel⟩
set_option maxRecDepth 20000 in
theorem md_O_top : zz_md y_O_top b_O_top 1 (some (.int)) [] 0 := ⟨⟨_, zz_in 482 rfl rfl, zz_cd_code _ _ _ _⟩, zz_in 4 (by decide +kernel) rfl, by decide +kernel, by decide +kernel, by decide +kernel⟩
set_option maxRecDepth 20000 in
theorem md_O_make : zz_md y_O_make b_O_make 4 none [] 1 := ⟨⟨_, zz_in 486 rfl rfl, zz_cd_code _ _ _ _⟩, zz_in 4 (by decide +kernel) rfl, by decide +kernel, by decide +kernel, by decide +kernel⟩
set_option maxRecDepth 20000 in
theorem md_O_remove : zz_md y_O_remove b_O_remove 6 (some (.int)) [] 1 := ⟨⟨_, zz_in 490 rfl rfl, zz_cd_code _ _ _ _⟩, zz_in 4 (by decide +kernel) rfl, by decide +kernel, by decide +kernel, by decide +kernel⟩
set_option maxRecDepth 20000 in
theorem md_O_isBelow : zz_md y_O_isBelow b_O_isBelow 4 (some (.boolean)) [] 2 := ⟨⟨_, zz_in 493 rfl rfl, zz_cd_code _ _ _ _⟩, zz_in 4 (by decide +kernel) rfl, by decide +kernel, by decide +kernel, by decide +kernel⟩
set_option maxRecDepth 20000 in
theorem md_O_takeAway : zz_md y_O_takeAway b_O_takeAway 3 none [] 1 := ⟨⟨_, zz_in 497 rfl rfl, zz_cd_code _ _ _ _⟩, zz_in 4 (by decide +kernel) rfl, by decide +kernel, by decide +kernel, by decide +kernel⟩
set_option maxRecDepth 20000 in
theorem md_O_move : zz_md y_O_move b_O_move 7 none [] 2 := ⟨⟨_, zz_in 501 rfl rfl, zz_cd_code _ _ _ _⟩, zz_in 4 (by decide +kernel) rfl, by decide +kernel, by decide +kernel, by decide +kernel⟩
set_option maxRecDepth 20000 in
theorem md_O_layer : zz_md y_O_layer b_O_layer 2 (some (.int)) [] 0 := ⟨⟨_, zz_in 505 rfl rfl, zz_cd_code _ _ _ _⟩, zz_in 4 (by decide +kernel) rfl, by decide +kernel, by decide +kernel, by decide +kernel⟩
set_option maxRecDepth 20000 in
theorem md_O_drop : zz_md y_O_drop b_O_drop 1 (some (.int)) [] 0 := ⟨⟨_, zz_in 509 rfl rfl, zz_cd_code _ _ _ _⟩, zz_in 4 (by decide +kernel) rfl, by decide +kernel, by decide +kernel, by decide +kernel⟩
set_option maxRecDepth 20000 in
theorem md_O_squash : zz_md y_O_squash b_O_squash 6 (some (.int)) [] 1 := ⟨⟨_, zz_in 513 rfl rfl, zz_cd_code _ _ _ _⟩, zz_in 4 (by decide +kernel) rfl, by decide +kernel, by decide +kernel, by decide +kernel⟩
set_option maxRecDepth 20000 in
theorem md_O_isHidden : zz_md y_O_isHidden b_O_isHidden 6 (some (.boolean)) [] 2 := ⟨⟨_, zz_in 517 rfl rfl, zz_cd_code _ _ _ _⟩, zz_in 4 (by decide +kernel) rfl, by decide +kernel, by decide +kernel, by decide +kernel⟩
set_option maxRecDepth 20000 in
theorem md_O_kind : zz_md y_O_kind b_O_kind 3 (some (.int)) [] 2 := ⟨⟨_, zz_in 521 rfl rfl, zz_cd_code _ _ _ _⟩, zz_in 4 (by decide +kernel) rfl, by decide +kernel, by decide +kernel, by decide +kernel⟩
set_option maxRecDepth 20000 in
theorem md_O_isAsked : zz_md y_O_isAsked b_O_isAsked 3 (some (.boolean)) [] 2 := ⟨⟨_, zz_in 525 rfl rfl, zz_cd_code _ _ _ _⟩, zz_in 4 (by decide +kernel) rfl, by decide +kernel, by decide +kernel, by decide +kernel⟩
set_option maxRecDepth 20000 in
theorem md_O_value : zz_md y_O_value b_O_value 4 (some (.int)) [] 2 := ⟨⟨_, zz_in 529 rfl rfl, zz_cd_code _ _ _ _⟩, zz_in 4 (by decide +kernel) rfl, by decide +kernel, by decide +kernel, by decide +kernel⟩
set_option maxRecDepth 20000 in
theorem md_O_names : zz_md y_O_names b_O_names 7 (some (.int)) [] 2 := ⟨⟨_, zz_in 533 rfl rfl, zz_cd_code _ _ _ _⟩, zz_in 4 (by decide +kernel) rfl, by decide +kernel, by decide +kernel, by decide +kernel⟩
set_option maxRecDepth 20000 in
theorem md_O_mark : zz_md y_O_mark b_O_mark 4 (some (.int)) [] 2 := ⟨⟨_, zz_in 537 rfl rfl, zz_cd_code _ _ _ _⟩, zz_in 4 (by decide +kernel) rfl, by decide +kernel, by decide +kernel, by decide +kernel⟩
set_option maxRecDepth 20000 in
theorem md_O_marks : zz_md y_O_marks b_O_marks 4 (some (.int)) [] 1 := ⟨⟨_, zz_in 541 rfl rfl, zz_cd_code _ _ _ _⟩, zz_in 4 (by decide +kernel) rfl, by decide +kernel, by decide +kernel, by decide +kernel⟩
theorem ml_L_61 : Cond.methodLink "OverlayTreeLaw" 61 y_T_init ∈ zz_g := zz_in 15 (by decide +kernel) rfl
theorem im_T_init : Cond.instanceMethod y_T_init ∈ zz_g := zz_in 16 (by decide +kernel) rfl
theorem ml_T_1 : Cond.methodLink "OverlayTree" 1 Lib.objectInit ∈ zz_g := zz_in 18 (by decide +kernel) rfl
theorem ml_T_15 : Cond.methodLink "OverlayTree" 15 y_M_init ∈ zz_g := zz_in 24 (by decide +kernel) rfl
theorem im_M_init : Cond.instanceMethod y_M_init ∈ zz_g := zz_in 25 (by decide +kernel) rfl
theorem ml_M_3 : Cond.methodLink "OverlayTree$Mark" 3 Lib.objectInit ∈ zz_g := zz_in 27 (by decide +kernel) rfl
theorem ml_T_28 : Cond.methodLink "OverlayTree" 28 y_S_init ∈ zz_g := zz_in 45 (by decide +kernel) rfl
theorem im_S_init : Cond.instanceMethod y_S_init ∈ zz_g := zz_in 46 (by decide +kernel) rfl
theorem ml_S_3 : Cond.methodLink "OverlayTree$Sight" 3 Lib.objectInit ∈ zz_g := zz_in 48 (by decide +kernel) rfl
theorem ml_L_65 : Cond.methodLink "OverlayTreeLaw" 65 y_L_write ∈ zz_g := zz_in 75 (by decide +kernel) rfl
theorem sm_L_write : Cond.static y_L_write ∈ zz_g := zz_in 76 (by decide +kernel) rfl
theorem ml_L_7 : Cond.methodLink "OverlayTreeLaw" 7 y_T_write ∈ zz_g := zz_in 80 (by decide +kernel) rfl
theorem im_T_write : Cond.instanceMethod y_T_write ∈ zz_g := zz_in 81 (by decide +kernel) rfl
theorem se_T_write : Cond.selects "OverlayTree" y_T_write y_T_write ∈ zz_g := zz_in 82 (by decide +kernel) rfl
theorem ml_T_29 : Cond.methodLink "OverlayTree" 29 y_T_checkBelowRoot ∈ zz_g := zz_in 84 (by decide +kernel) rfl
theorem sm_T_checkBelowRoot : Cond.static y_T_checkBelowRoot ∈ zz_g := zz_in 85 (by decide +kernel) rfl
theorem ml_T_118 : Cond.methodLink "OverlayTree" 118 y_T_isPath ∈ zz_g := zz_in 87 (by decide +kernel) rfl
theorem sm_T_isPath : Cond.static y_T_isPath ∈ zz_g := zz_in 88 (by decide +kernel) rfl
theorem ml_T_33 : Cond.methodLink "OverlayTree" 33 y_T_checkWritable ∈ zz_g := zz_in 160 (by decide +kernel) rfl
theorem im_T_checkWritable : Cond.instanceMethod y_T_checkWritable ∈ zz_g := zz_in 162 (by decide +kernel) rfl
theorem ml_T_48 : Cond.methodLink "OverlayTree" 48 y_T_checkParent ∈ zz_g := zz_in 164 (by decide +kernel) rfl
theorem im_T_checkParent : Cond.instanceMethod y_T_checkParent ∈ zz_g := zz_in 166 (by decide +kernel) rfl
theorem ml_T_131 : Cond.methodLink "OverlayTree" 131 y_T_parentOf ∈ zz_g := zz_in 168 (by decide +kernel) rfl
theorem sm_T_parentOf : Cond.static y_T_parentOf ∈ zz_g := zz_in 169 (by decide +kernel) rfl
theorem ml_T_36 : Cond.methodLink "OverlayTree" 36 y_T_look ∈ zz_g := zz_in 171 (by decide +kernel) rfl
theorem im_T_look : Cond.instanceMethod y_T_look ∈ zz_g := zz_in 173 (by decide +kernel) rfl
theorem ml_T_138 : Cond.methodLink "OverlayTree" 138 y_S_seeRoot ∈ zz_g := zz_in 175 (by decide +kernel) rfl
theorem im_S_seeRoot : Cond.instanceMethod y_S_seeRoot ∈ zz_g := zz_in 176 (by decide +kernel) rfl
theorem se_S_seeRoot : Cond.selects "OverlayTree$Sight" y_S_seeRoot y_S_seeRoot ∈ zz_g := zz_in 177 (by decide +kernel) rfl
theorem ml_T_142 : Cond.methodLink "OverlayTree" 142 y_S_see ∈ zz_g := zz_in 179 (by decide +kernel) rfl
theorem im_S_see : Cond.instanceMethod y_S_see ∈ zz_g := zz_in 180 (by decide +kernel) rfl
theorem se_S_see : Cond.selects "OverlayTree$Sight" y_S_see y_S_see ∈ zz_g := zz_in 181 (by decide +kernel) rfl
theorem ml_S_28 : Cond.methodLink "OverlayTree$Sight" 28 y_M_at ∈ zz_g := zz_in 183 (by decide +kernel) rfl
theorem im_M_at : Cond.instanceMethod y_M_at ∈ zz_g := zz_in 184 (by decide +kernel) rfl
theorem se_M_at : Cond.selects "OverlayTree$Mark" y_M_at y_M_at ∈ zz_g := zz_in 185 (by decide +kernel) rfl
theorem ml_S_32 : Cond.methodLink "OverlayTree$Sight" 32 y_S_addLayer ∈ zz_g := zz_in 187 (by decide +kernel) rfl
theorem im_S_addLayer : Cond.instanceMethod y_S_addLayer ∈ zz_g := zz_in 189 (by decide +kernel) rfl
theorem ml_T_40 : Cond.methodLink "OverlayTree" 40 y_S_kindIn ∈ zz_g := zz_in 191 (by decide +kernel) rfl
theorem im_S_kindIn : Cond.instanceMethod y_S_kindIn ∈ zz_g := zz_in 192 (by decide +kernel) rfl
theorem se_S_kindIn : Cond.selects "OverlayTree$Sight" y_S_kindIn y_S_kindIn ∈ zz_g := zz_in 193 (by decide +kernel) rfl
theorem ml_T_44 : Cond.methodLink "OverlayTree" 44 y_T_setMark ∈ zz_g := zz_in 212 (by decide +kernel) rfl
theorem im_T_setMark : Cond.instanceMethod y_T_setMark ∈ zz_g := zz_in 214 (by decide +kernel) rfl
theorem ml_T_151 : Cond.methodLink "OverlayTree" 151 y_M_atOrNew ∈ zz_g := zz_in 216 (by decide +kernel) rfl
theorem im_M_atOrNew : Cond.instanceMethod y_M_atOrNew ∈ zz_g := zz_in 217 (by decide +kernel) rfl
theorem se_M_atOrNew : Cond.selects "OverlayTree$Mark" y_M_atOrNew y_M_atOrNew ∈ zz_g := zz_in 218 (by decide +kernel) rfl
theorem ml_M_22 : Cond.methodLink "OverlayTree$Mark" 22 y_M_at ∈ zz_g := zz_in 220 (by decide +kernel) rfl
theorem ml_M_26 : Cond.methodLink "OverlayTree$Mark" 26 y_M_init ∈ zz_g := zz_in 222 (by decide +kernel) rfl
theorem ml_M_29 : Cond.methodLink "OverlayTree$Mark" 29 y_M_hang ∈ zz_g := zz_in 223 (by decide +kernel) rfl
theorem im_M_hang : Cond.instanceMethod y_M_hang ∈ zz_g := zz_in 224 (by decide +kernel) rfl
theorem se_M_hang : Cond.selects "OverlayTree$Mark" y_M_hang y_M_hang ∈ zz_g := zz_in 225 (by decide +kernel) rfl
theorem ml_L_74 : Cond.methodLink "OverlayTreeLaw" 74 y_L_make ∈ zz_g := zz_in 227 (by decide +kernel) rfl
theorem sm_L_make : Cond.static y_L_make ∈ zz_g := zz_in 228 (by decide +kernel) rfl
theorem ml_L_17 : Cond.methodLink "OverlayTreeLaw" 17 y_T_make ∈ zz_g := zz_in 230 (by decide +kernel) rfl
theorem im_T_make : Cond.instanceMethod y_T_make ∈ zz_g := zz_in 231 (by decide +kernel) rfl
theorem se_T_make : Cond.selects "OverlayTree" y_T_make y_T_make ∈ zz_g := zz_in 232 (by decide +kernel) rfl
theorem ml_L_78 : Cond.methodLink "OverlayTreeLaw" 78 y_L_remove ∈ zz_g := zz_in 235 (by decide +kernel) rfl
theorem sm_L_remove : Cond.static y_L_remove ∈ zz_g := zz_in 236 (by decide +kernel) rfl
theorem ml_L_21 : Cond.methodLink "OverlayTreeLaw" 21 y_T_remove ∈ zz_g := zz_in 239 (by decide +kernel) rfl
theorem im_T_remove : Cond.instanceMethod y_T_remove ∈ zz_g := zz_in 240 (by decide +kernel) rfl
theorem se_T_remove : Cond.selects "OverlayTree" y_T_remove y_T_remove ∈ zz_g := zz_in 241 (by decide +kernel) rfl
theorem ml_T_63 : Cond.methodLink "OverlayTree" 63 y_T_depthOf ∈ zz_g := zz_in 259 (by decide +kernel) rfl
theorem sm_T_depthOf : Cond.static y_T_depthOf ∈ zz_g := zz_in 260 (by decide +kernel) rfl
theorem ml_T_66 : Cond.methodLink "OverlayTree" 66 y_T_countSeen ∈ zz_g := zz_in 262 (by decide +kernel) rfl
theorem im_T_countSeen : Cond.instanceMethod y_T_countSeen ∈ zz_g := zz_in 264 (by decide +kernel) rfl
theorem ml_T_69 : Cond.methodLink "OverlayTree" 69 y_T_takeAway ∈ zz_g := zz_in 266 (by decide +kernel) rfl
theorem im_T_takeAway : Cond.instanceMethod y_T_takeAway ∈ zz_g := zz_in 268 (by decide +kernel) rfl
theorem ml_T_157 : Cond.methodLink "OverlayTree" 157 y_T_clearMarks ∈ zz_g := zz_in 270 (by decide +kernel) rfl
theorem im_T_clearMarks : Cond.instanceMethod y_T_clearMarks ∈ zz_g := zz_in 272 (by decide +kernel) rfl
theorem ml_T_107 : Cond.methodLink "OverlayTree" 107 y_M_at ∈ zz_g := zz_in 274 (by decide +kernel) rfl
theorem ml_T_160 : Cond.methodLink "OverlayTree" 160 y_M_hang ∈ zz_g := zz_in 275 (by decide +kernel) rfl
theorem ml_L_82 : Cond.methodLink "OverlayTreeLaw" 82 y_L_move ∈ zz_g := zz_in 276 (by decide +kernel) rfl
theorem sm_L_move : Cond.static y_L_move ∈ zz_g := zz_in 277 (by decide +kernel) rfl
theorem ml_L_27 : Cond.methodLink "OverlayTreeLaw" 27 y_T_move ∈ zz_g := zz_in 279 (by decide +kernel) rfl
theorem im_T_move : Cond.instanceMethod y_T_move ∈ zz_g := zz_in 280 (by decide +kernel) rfl
theorem se_T_move : Cond.selects "OverlayTree" y_T_move y_T_move ∈ zz_g := zz_in 281 (by decide +kernel) rfl
theorem ml_T_72 : Cond.methodLink "OverlayTree" 72 y_T_fileValue ∈ zz_g := zz_in 283 (by decide +kernel) rfl
theorem im_T_fileValue : Cond.instanceMethod y_T_fileValue ∈ zz_g := zz_in 285 (by decide +kernel) rfl
theorem ml_T_148 : Cond.methodLink "OverlayTree" 148 y_S_valueIn ∈ zz_g := zz_in 288 (by decide +kernel) rfl
theorem im_S_valueIn : Cond.instanceMethod y_S_valueIn ∈ zz_g := zz_in 289 (by decide +kernel) rfl
theorem se_S_valueIn : Cond.selects "OverlayTree$Sight" y_S_valueIn y_S_valueIn ∈ zz_g := zz_in 290 (by decide +kernel) rfl
theorem ml_L_86 : Cond.methodLink "OverlayTreeLaw" 86 y_L_layer ∈ zz_g := zz_in 292 (by decide +kernel) rfl
theorem sm_L_layer : Cond.static y_L_layer ∈ zz_g := zz_in 293 (by decide +kernel) rfl
theorem ml_L_31 : Cond.methodLink "OverlayTreeLaw" 31 y_T_layer ∈ zz_g := zz_in 296 (by decide +kernel) rfl
theorem im_T_layer : Cond.instanceMethod y_T_layer ∈ zz_g := zz_in 297 (by decide +kernel) rfl
theorem se_T_layer : Cond.selects "OverlayTree" y_T_layer y_T_layer ∈ zz_g := zz_in 298 (by decide +kernel) rfl
theorem ml_L_90 : Cond.methodLink "OverlayTreeLaw" 90 y_L_squash ∈ zz_g := zz_in 316 (by decide +kernel) rfl
theorem sm_L_squash : Cond.static y_L_squash ∈ zz_g := zz_in 317 (by decide +kernel) rfl
theorem ml_L_37 : Cond.methodLink "OverlayTreeLaw" 37 y_T_squash ∈ zz_g := zz_in 320 (by decide +kernel) rfl
theorem im_T_squash : Cond.instanceMethod y_T_squash ∈ zz_g := zz_in 321 (by decide +kernel) rfl
theorem se_T_squash : Cond.selects "OverlayTree" y_T_squash y_T_squash ∈ zz_g := zz_in 322 (by decide +kernel) rfl
theorem ml_T_86 : Cond.methodLink "OverlayTree" 86 y_T_layOver ∈ zz_g := zz_in 340 (by decide +kernel) rfl
theorem sm_T_layOver : Cond.static y_T_layOver ∈ zz_g := zz_in 341 (by decide +kernel) rfl
theorem ml_T_90 : Cond.methodLink "OverlayTree" 90 y_T_loseTop ∈ zz_g := zz_in 343 (by decide +kernel) rfl
theorem im_T_loseTop : Cond.instanceMethod y_T_loseTop ∈ zz_g := zz_in 345 (by decide +kernel) rfl
theorem ml_L_93 : Cond.methodLink "OverlayTreeLaw" 93 y_L_drop ∈ zz_g := zz_in 347 (by decide +kernel) rfl
theorem sm_L_drop : Cond.static y_L_drop ∈ zz_g := zz_in 348 (by decide +kernel) rfl
theorem ml_L_42 : Cond.methodLink "OverlayTreeLaw" 42 y_T_drop ∈ zz_g := zz_in 350 (by decide +kernel) rfl
theorem im_T_drop : Cond.instanceMethod y_T_drop ∈ zz_g := zz_in 351 (by decide +kernel) rfl
theorem se_T_drop : Cond.selects "OverlayTree" y_T_drop y_T_drop ∈ zz_g := zz_in 352 (by decide +kernel) rfl
theorem ml_L_96 : Cond.methodLink "OverlayTreeLaw" 96 y_L_kind ∈ zz_g := zz_in 355 (by decide +kernel) rfl
theorem sm_L_kind : Cond.static y_L_kind ∈ zz_g := zz_in 356 (by decide +kernel) rfl
theorem ml_L_45 : Cond.methodLink "OverlayTreeLaw" 45 y_T_kind ∈ zz_g := zz_in 358 (by decide +kernel) rfl
theorem im_T_kind : Cond.instanceMethod y_T_kind ∈ zz_g := zz_in 359 (by decide +kernel) rfl
theorem se_T_kind : Cond.selects "OverlayTree" y_T_kind y_T_kind ∈ zz_g := zz_in 360 (by decide +kernel) rfl
theorem ml_T_96 : Cond.methodLink "OverlayTree" 96 y_T_checkView ∈ zz_g := zz_in 362 (by decide +kernel) rfl
theorem im_T_checkView : Cond.instanceMethod y_T_checkView ∈ zz_g := zz_in 364 (by decide +kernel) rfl
theorem ml_L_99 : Cond.methodLink "OverlayTreeLaw" 99 y_L_value ∈ zz_g := zz_in 367 (by decide +kernel) rfl
theorem sm_L_value : Cond.static y_L_value ∈ zz_g := zz_in 368 (by decide +kernel) rfl
theorem ml_L_49 : Cond.methodLink "OverlayTreeLaw" 49 y_T_value ∈ zz_g := zz_in 370 (by decide +kernel) rfl
theorem im_T_value : Cond.instanceMethod y_T_value ∈ zz_g := zz_in 371 (by decide +kernel) rfl
theorem se_T_value : Cond.selects "OverlayTree" y_T_value y_T_value ∈ zz_g := zz_in 372 (by decide +kernel) rfl
theorem ml_L_102 : Cond.methodLink "OverlayTreeLaw" 102 y_L_names ∈ zz_g := zz_in 374 (by decide +kernel) rfl
theorem sm_L_names : Cond.static y_L_names ∈ zz_g := zz_in 375 (by decide +kernel) rfl
theorem ml_L_52 : Cond.methodLink "OverlayTreeLaw" 52 y_T_names ∈ zz_g := zz_in 377 (by decide +kernel) rfl
theorem im_T_names : Cond.instanceMethod y_T_names ∈ zz_g := zz_in 378 (by decide +kernel) rfl
theorem se_T_names : Cond.selects "OverlayTree" y_T_names y_T_names ∈ zz_g := zz_in 379 (by decide +kernel) rfl
theorem ml_T_101 : Cond.methodLink "OverlayTree" 101 y_T_namesSeen ∈ zz_g := zz_in 382 (by decide +kernel) rfl
theorem im_T_namesSeen : Cond.instanceMethod y_T_namesSeen ∈ zz_g := zz_in 384 (by decide +kernel) rfl
theorem ml_L_105 : Cond.methodLink "OverlayTreeLaw" 105 y_L_mark ∈ zz_g := zz_in 386 (by decide +kernel) rfl
theorem sm_L_mark : Cond.static y_L_mark ∈ zz_g := zz_in 387 (by decide +kernel) rfl
theorem ml_L_55 : Cond.methodLink "OverlayTreeLaw" 55 y_T_mark ∈ zz_g := zz_in 389 (by decide +kernel) rfl
theorem im_T_mark : Cond.instanceMethod y_T_mark ∈ zz_g := zz_in 390 (by decide +kernel) rfl
theorem se_T_mark : Cond.selects "OverlayTree" y_T_mark y_T_mark ∈ zz_g := zz_in 391 (by decide +kernel) rfl
theorem ml_T_104 : Cond.methodLink "OverlayTree" 104 y_T_checkLayer ∈ zz_g := zz_in 393 (by decide +kernel) rfl
theorem im_T_checkLayer : Cond.instanceMethod y_T_checkLayer ∈ zz_g := zz_in 395 (by decide +kernel) rfl
theorem ml_L_108 : Cond.methodLink "OverlayTreeLaw" 108 y_L_marks ∈ zz_g := zz_in 398 (by decide +kernel) rfl
theorem sm_L_marks : Cond.static y_L_marks ∈ zz_g := zz_in 399 (by decide +kernel) rfl
theorem ml_L_58 : Cond.methodLink "OverlayTreeLaw" 58 y_T_marks ∈ zz_g := zz_in 401 (by decide +kernel) rfl
theorem im_T_marks : Cond.instanceMethod y_T_marks ∈ zz_g := zz_in 402 (by decide +kernel) rfl
theorem se_T_marks : Cond.selects "OverlayTree" y_T_marks y_T_marks ∈ zz_g := zz_in 403 (by decide +kernel) rfl
theorem ml_T_114 : Cond.methodLink "OverlayTree" 114 y_T_countMarks ∈ zz_g := zz_in 405 (by decide +kernel) rfl
theorem sm_T_countMarks : Cond.static y_T_countMarks ∈ zz_g := zz_in 406 (by decide +kernel) rfl
theorem ml_L_64 : Cond.methodLink "OverlayTreeLaw" 64 y_O_init ∈ zz_g := zz_in 410 (by decide +kernel) rfl
theorem im_O_init : Cond.instanceMethod y_O_init ∈ zz_g := zz_in 411 (by decide +kernel) rfl
theorem ml_O_1 : Cond.methodLink "OverlayTreeModel" 1 Lib.objectInit ∈ zz_g := zz_in 413 (by decide +kernel) rfl
theorem ml_O_37 : Cond.methodLink "OverlayTreeModel" 37 y_O_isPath ∈ zz_g := zz_in 415 (by decide +kernel) rfl
theorem sm_O_isPath : Cond.static y_O_isPath ∈ zz_g := zz_in 416 (by decide +kernel) rfl
theorem ml_O_51 : Cond.methodLink "OverlayTreeModel" 51 y_O_in ∈ zz_g := zz_in 418 (by decide +kernel) rfl
theorem sm_O_in : Cond.static y_O_in ∈ zz_g := zz_in 419 (by decide +kernel) rfl
theorem ml_O_44 : Cond.methodLink "OverlayTreeModel" 44 y_O_parentOf ∈ zz_g := zz_in 421 (by decide +kernel) rfl
theorem sm_O_parentOf : Cond.static y_O_parentOf ∈ zz_g := zz_in 422 (by decide +kernel) rfl
theorem ml_L_71 : Cond.methodLink "OverlayTreeLaw" 71 y_O_thrown ∈ zz_g := zz_in 455 (by decide +kernel) rfl
theorem im_O_thrown : Cond.instanceMethod y_O_thrown ∈ zz_g := zz_in 456 (by decide +kernel) rfl
theorem se_O_thrown : Cond.selects "OverlayTreeModel" y_O_thrown y_O_thrown ∈ zz_g := zz_in 457 (by decide +kernel) rfl
theorem ml_L_70 : Cond.methodLink "OverlayTreeLaw" 70 y_O_write ∈ zz_g := zz_in 459 (by decide +kernel) rfl
theorem im_O_write : Cond.instanceMethod y_O_write ∈ zz_g := zz_in 460 (by decide +kernel) rfl
theorem se_O_write : Cond.selects "OverlayTreeModel" y_O_write y_O_write ∈ zz_g := zz_in 461 (by decide +kernel) rfl
theorem ml_O_63 : Cond.methodLink "OverlayTreeModel" 63 y_O_look ∈ zz_g := zz_in 463 (by decide +kernel) rfl
theorem im_O_look : Cond.instanceMethod y_O_look ∈ zz_g := zz_in 465 (by decide +kernel) rfl
theorem ml_O_55 : Cond.methodLink "OverlayTreeModel" 55 y_O_cover ∈ zz_g := zz_in 467 (by decide +kernel) rfl
theorem im_O_cover : Cond.instanceMethod y_O_cover ∈ zz_g := zz_in 469 (by decide +kernel) rfl
theorem ml_O_66 : Cond.methodLink "OverlayTreeModel" 66 y_O_refuse ∈ zz_g := zz_in 471 (by decide +kernel) rfl
theorem im_O_refuse : Cond.instanceMethod y_O_refuse ∈ zz_g := zz_in 473 (by decide +kernel) rfl
theorem ml_O_70 : Cond.methodLink "OverlayTreeModel" 70 y_O_put ∈ zz_g := zz_in 475 (by decide +kernel) rfl
theorem im_O_put : Cond.instanceMethod y_O_put ∈ zz_g := zz_in 477 (by decide +kernel) rfl
theorem ml_O_59 : Cond.methodLink "OverlayTreeModel" 59 y_O_top ∈ zz_g := zz_in 479 (by decide +kernel) rfl
theorem im_O_top : Cond.instanceMethod y_O_top ∈ zz_g := zz_in 481 (by decide +kernel) rfl
theorem ml_L_77 : Cond.methodLink "OverlayTreeLaw" 77 y_O_make ∈ zz_g := zz_in 483 (by decide +kernel) rfl
theorem im_O_make : Cond.instanceMethod y_O_make ∈ zz_g := zz_in 484 (by decide +kernel) rfl
theorem se_O_make : Cond.selects "OverlayTreeModel" y_O_make y_O_make ∈ zz_g := zz_in 485 (by decide +kernel) rfl
theorem ml_L_81 : Cond.methodLink "OverlayTreeLaw" 81 y_O_remove ∈ zz_g := zz_in 487 (by decide +kernel) rfl
theorem im_O_remove : Cond.instanceMethod y_O_remove ∈ zz_g := zz_in 488 (by decide +kernel) rfl
theorem se_O_remove : Cond.selects "OverlayTreeModel" y_O_remove y_O_remove ∈ zz_g := zz_in 489 (by decide +kernel) rfl
theorem ml_O_74 : Cond.methodLink "OverlayTreeModel" 74 y_O_isBelow ∈ zz_g := zz_in 491 (by decide +kernel) rfl
theorem sm_O_isBelow : Cond.static y_O_isBelow ∈ zz_g := zz_in 492 (by decide +kernel) rfl
theorem ml_O_78 : Cond.methodLink "OverlayTreeModel" 78 y_O_takeAway ∈ zz_g := zz_in 494 (by decide +kernel) rfl
theorem im_O_takeAway : Cond.instanceMethod y_O_takeAway ∈ zz_g := zz_in 496 (by decide +kernel) rfl
theorem ml_L_85 : Cond.methodLink "OverlayTreeLaw" 85 y_O_move ∈ zz_g := zz_in 498 (by decide +kernel) rfl
theorem im_O_move : Cond.instanceMethod y_O_move ∈ zz_g := zz_in 499 (by decide +kernel) rfl
theorem se_O_move : Cond.selects "OverlayTreeModel" y_O_move y_O_move ∈ zz_g := zz_in 500 (by decide +kernel) rfl
theorem ml_L_89 : Cond.methodLink "OverlayTreeLaw" 89 y_O_layer ∈ zz_g := zz_in 502 (by decide +kernel) rfl
theorem im_O_layer : Cond.instanceMethod y_O_layer ∈ zz_g := zz_in 503 (by decide +kernel) rfl
theorem se_O_layer : Cond.selects "OverlayTreeModel" y_O_layer y_O_layer ∈ zz_g := zz_in 504 (by decide +kernel) rfl
theorem ml_L_95 : Cond.methodLink "OverlayTreeLaw" 95 y_O_drop ∈ zz_g := zz_in 506 (by decide +kernel) rfl
theorem im_O_drop : Cond.instanceMethod y_O_drop ∈ zz_g := zz_in 507 (by decide +kernel) rfl
theorem se_O_drop : Cond.selects "OverlayTreeModel" y_O_drop y_O_drop ∈ zz_g := zz_in 508 (by decide +kernel) rfl
theorem ml_L_92 : Cond.methodLink "OverlayTreeLaw" 92 y_O_squash ∈ zz_g := zz_in 510 (by decide +kernel) rfl
theorem im_O_squash : Cond.instanceMethod y_O_squash ∈ zz_g := zz_in 511 (by decide +kernel) rfl
theorem se_O_squash : Cond.selects "OverlayTreeModel" y_O_squash y_O_squash ∈ zz_g := zz_in 512 (by decide +kernel) rfl
theorem ml_O_81 : Cond.methodLink "OverlayTreeModel" 81 y_O_isHidden ∈ zz_g := zz_in 514 (by decide +kernel) rfl
theorem im_O_isHidden : Cond.instanceMethod y_O_isHidden ∈ zz_g := zz_in 516 (by decide +kernel) rfl
theorem ml_L_98 : Cond.methodLink "OverlayTreeLaw" 98 y_O_kind ∈ zz_g := zz_in 518 (by decide +kernel) rfl
theorem im_O_kind : Cond.instanceMethod y_O_kind ∈ zz_g := zz_in 519 (by decide +kernel) rfl
theorem se_O_kind : Cond.selects "OverlayTreeModel" y_O_kind y_O_kind ∈ zz_g := zz_in 520 (by decide +kernel) rfl
theorem ml_O_84 : Cond.methodLink "OverlayTreeModel" 84 y_O_isAsked ∈ zz_g := zz_in 522 (by decide +kernel) rfl
theorem im_O_isAsked : Cond.instanceMethod y_O_isAsked ∈ zz_g := zz_in 524 (by decide +kernel) rfl
theorem ml_L_101 : Cond.methodLink "OverlayTreeLaw" 101 y_O_value ∈ zz_g := zz_in 526 (by decide +kernel) rfl
theorem im_O_value : Cond.instanceMethod y_O_value ∈ zz_g := zz_in 527 (by decide +kernel) rfl
theorem se_O_value : Cond.selects "OverlayTreeModel" y_O_value y_O_value ∈ zz_g := zz_in 528 (by decide +kernel) rfl
theorem ml_L_104 : Cond.methodLink "OverlayTreeLaw" 104 y_O_names ∈ zz_g := zz_in 530 (by decide +kernel) rfl
theorem im_O_names : Cond.instanceMethod y_O_names ∈ zz_g := zz_in 531 (by decide +kernel) rfl
theorem se_O_names : Cond.selects "OverlayTreeModel" y_O_names y_O_names ∈ zz_g := zz_in 532 (by decide +kernel) rfl
theorem ml_L_107 : Cond.methodLink "OverlayTreeLaw" 107 y_O_mark ∈ zz_g := zz_in 534 (by decide +kernel) rfl
theorem im_O_mark : Cond.instanceMethod y_O_mark ∈ zz_g := zz_in 535 (by decide +kernel) rfl
theorem se_O_mark : Cond.selects "OverlayTreeModel" y_O_mark y_O_mark ∈ zz_g := zz_in 536 (by decide +kernel) rfl
theorem ml_L_110 : Cond.methodLink "OverlayTreeLaw" 110 y_O_marks ∈ zz_g := zz_in 538 (by decide +kernel) rfl
theorem im_O_marks : Cond.instanceMethod y_O_marks ∈ zz_g := zz_in 539 (by decide +kernel) rfl
theorem se_O_marks : Cond.selects "OverlayTreeModel" y_O_marks y_O_marks ∈ zz_g := zz_in 540 (by decide +kernel) rfl
theorem se_T_checkWritable : Cond.selects "OverlayTree" y_T_checkWritable y_T_checkWritable ∈ zz_g := zz_inp 1 (by decide +kernel) rfl
theorem se_T_checkParent : Cond.selects "OverlayTree" y_T_checkParent y_T_checkParent ∈ zz_g := zz_inp 2 (by decide +kernel) rfl
theorem se_T_look : Cond.selects "OverlayTree" y_T_look y_T_look ∈ zz_g := zz_inp 3 (by decide +kernel) rfl
theorem se_S_addLayer : Cond.selects "OverlayTree$Sight" y_S_addLayer y_S_addLayer ∈ zz_g := zz_inp 4 (by decide +kernel) rfl
theorem se_T_setMark : Cond.selects "OverlayTree" y_T_setMark y_T_setMark ∈ zz_g := zz_inp 5 (by decide +kernel) rfl
theorem se_T_countSeen : Cond.selects "OverlayTree" y_T_countSeen y_T_countSeen ∈ zz_g := zz_inp 6 (by decide +kernel) rfl
theorem se_T_takeAway : Cond.selects "OverlayTree" y_T_takeAway y_T_takeAway ∈ zz_g := zz_inp 7 (by decide +kernel) rfl
theorem se_T_clearMarks : Cond.selects "OverlayTree" y_T_clearMarks y_T_clearMarks ∈ zz_g := zz_inp 8 (by decide +kernel) rfl
theorem se_T_fileValue : Cond.selects "OverlayTree" y_T_fileValue y_T_fileValue ∈ zz_g := zz_inp 9 (by decide +kernel) rfl
theorem se_T_loseTop : Cond.selects "OverlayTree" y_T_loseTop y_T_loseTop ∈ zz_g := zz_inp 10 (by decide +kernel) rfl
theorem se_T_checkView : Cond.selects "OverlayTree" y_T_checkView y_T_checkView ∈ zz_g := zz_inp 11 (by decide +kernel) rfl
theorem se_T_namesSeen : Cond.selects "OverlayTree" y_T_namesSeen y_T_namesSeen ∈ zz_g := zz_inp 12 (by decide +kernel) rfl
theorem se_T_checkLayer : Cond.selects "OverlayTree" y_T_checkLayer y_T_checkLayer ∈ zz_g := zz_inp 13 (by decide +kernel) rfl
theorem se_O_look : Cond.selects "OverlayTreeModel" y_O_look y_O_look ∈ zz_g := zz_inp 14 (by decide +kernel) rfl
theorem se_O_cover : Cond.selects "OverlayTreeModel" y_O_cover y_O_cover ∈ zz_g := zz_inp 15 (by decide +kernel) rfl
theorem se_O_refuse : Cond.selects "OverlayTreeModel" y_O_refuse y_O_refuse ∈ zz_g := zz_inp 16 (by decide +kernel) rfl
theorem se_O_put : Cond.selects "OverlayTreeModel" y_O_put y_O_put ∈ zz_g := zz_inp 17 (by decide +kernel) rfl
theorem se_O_top : Cond.selects "OverlayTreeModel" y_O_top y_O_top ∈ zz_g := zz_inp 18 (by decide +kernel) rfl
theorem se_O_takeAway : Cond.selects "OverlayTreeModel" y_O_takeAway y_O_takeAway ∈ zz_g := zz_inp 19 (by decide +kernel) rfl
theorem se_O_isHidden : Cond.selects "OverlayTreeModel" y_O_isHidden y_O_isHidden ∈ zz_g := zz_inp 20 (by decide +kernel) rfl
theorem se_O_isAsked : Cond.selects "OverlayTreeModel" y_O_isAsked y_O_isAsked ∈ zz_g := zz_inp 21 (by decide +kernel) rfl
