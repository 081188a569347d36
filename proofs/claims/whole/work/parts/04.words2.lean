/-! words of new objects and of throws -/
theorem wc_RJ4_18 : Cond.classLink RJ4 18 "java/lang/String" ∈ WG := wt_4 201 (by decide +kernel) rfl
theorem wc_RJ5_129 : Cond.classLink RJ5 129 "java/lang/StringIndexOutOfBoundsException" ∈ WG := wt_4 76 (by decide +kernel) rfl
theorem wc_RJ7_2 : Cond.classLink RJ7 2 "java/lang/Object" ∈ WG := wt_6 80 (by decide +kernel) rfl
theorem wc_RJ7_43 : Cond.classLink RJ7 43 "java/lang/IllegalArgumentException" ∈ WG := wt_4 233 (by decide +kernel) rfl
theorem wc_RJ7_45 : Cond.classLink RJ7 45 "java/lang/StringBuilder" ∈ WG := wt_5 37 (by decide +kernel) rfl
theorem wc_RJ7_68 : Cond.classLink RJ7 68 "java/lang/ArrayIndexOutOfBoundsException" ∈ WG := wt_5 112 (by decide +kernel) rfl
theorem wc_RJ7_110 : Cond.classLink RJ7 110 "[Ljava/lang/Object;" ∈ WG := wt_6 78 (by decide +kernel) rfl
theorem wc_RJ7_311 : Cond.classLink RJ7 311 "[B" ∈ WG := wt_4 121 (by decide +kernel) rfl
theorem wc_RJx00060_10 : Cond.classLink RJx00060 10 "java/lang/StringBuilder" ∈ WG := wt_5 126 (by decide +kernel) rfl
theorem wc_RJx4a65c_7 : Cond.classLink RJx4a65c 7 "java/lang/Object" ∈ WG := wt_6 82 (by decide +kernel) rfl
theorem wc_RJx7c733_10 : Cond.classLink RJx7c733 10 "java/lang/StringBuilder" ∈ WG := wt_4 81 (by decide +kernel) rfl
theorem wc_RL_8 : Cond.classLink RL 8 "OpeningsCabinet" ∈ WG := wt_1 41 (by decide +kernel) rfl
theorem wc_RL_13 : Cond.classLink RL 13 "java/lang/IllegalArgumentException" ∈ WG := wt_7 13 (by decide +kernel) rfl
theorem wc_RL_18 : Cond.classLink RL 18 "java/lang/IndexOutOfBoundsException" ∈ WG := wt_7 30 (by decide +kernel) rfl
theorem wc_RL_20 : Cond.classLink RL 20 "java/lang/IllegalStateException" ∈ WG := wt_7 31 (by decide +kernel) rfl
theorem wc_RL_115 : Cond.classLink RL 115 "java/util/NoSuchElementException" ∈ WG := wt_9 40 (by decide +kernel) rfl
theorem wc_RL_172 : Cond.classLink RL 172 "OpeningsCabinetModel" ∈ WG := wt_10 132 (by decide +kernel) rfl
theorem wc_RX10_9 : Cond.classLink RX10 9 "java/util/ArrayList" ∈ WG := wt_2 121 (by decide +kernel) rfl
theorem wc_RX10_29 : Cond.classLink RX10 29 "OpeningsCabinet$Game" ∈ WG := wt_5 234 (by decide +kernel) rfl
theorem wc_RX11_9 : Cond.classLink RX11 9 "OpeningsCabinet$Board" ∈ WG := wt_1 49 (by decide +kernel) rfl
theorem wc_RX11_16 : Cond.classLink RX11 16 "OpeningsCabinet$Rules" ∈ WG := wt_1 108 (by decide +kernel) rfl
theorem wc_RX11_25 : Cond.classLink RX11 25 "OpeningsCabinet$Position" ∈ WG := wt_1 133 (by decide +kernel) rfl
theorem wc_RX11_35 : Cond.classLink RX11 35 "OpeningsCabinet$Game" ∈ WG := wt_1 177 (by decide +kernel) rfl
theorem wc_RX11_44 : Cond.classLink RX11 44 "OpeningsCabinet$MoveList" ∈ WG := wt_1 228 (by decide +kernel) rfl
theorem wc_RX11_53 : Cond.classLink RX11 53 "OpeningsCabinet$MovesReader" ∈ WG := wt_2 23 (by decide +kernel) rfl
theorem wc_RX11_62 : Cond.classLink RX11 62 "OpeningsCabinet$Papers" ∈ WG := wt_2 66 (by decide +kernel) rfl
theorem wc_RX11_69 : Cond.classLink RX11 69 "OpeningsCabinet$Shelf" ∈ WG := wt_2 115 (by decide +kernel) rfl
theorem wc_RX11_79 : Cond.classLink RX11 79 "OpeningsCabinet$Continuations" ∈ WG := wt_2 151 (by decide +kernel) rfl
theorem wc_RX11_88 : Cond.classLink RX11 88 "OpeningsCabinet$Search" ∈ WG := wt_2 170 (by decide +kernel) rfl
theorem wc_RX11_95 : Cond.classLink RX11 95 "OpeningsCabinet$Endings" ∈ WG := wt_2 212 (by decide +kernel) rfl
theorem wc_RX11_102 : Cond.classLink RX11 102 "java/lang/StringBuilder" ∈ WG := wt_3 3 (by decide +kernel) rfl
theorem wc_RX11_140 : Cond.classLink RX11 140 "java/lang/IllegalArgumentException" ∈ WG := wt_7 18 (by decide +kernel) rfl
theorem wc_RX11_235 : Cond.classLink RX11 235 "java/lang/IndexOutOfBoundsException" ∈ WG := wt_7 41 (by decide +kernel) rfl
theorem wc_RX11_285 : Cond.classLink RX11 285 "java/lang/IllegalStateException" ∈ WG := wt_7 59 (by decide +kernel) rfl
theorem wc_RX11_372 : Cond.classLink RX11 372 "java/util/NoSuchElementException" ∈ WG := wt_9 45 (by decide +kernel) rfl
theorem wc_RX3_10 : Cond.classLink RX3 10 "OpeningsCabinet$Game" ∈ WG := wt_8 214 (by decide +kernel) rfl
theorem wc_RX4_35 : Cond.classLink RX4 35 "OpeningsCabinet$Position" ∈ WG := wt_1 234 (by decide +kernel) rfl
theorem wc_RX5_46 : Cond.classLink RX5 46 "OpeningsCabinet$Position" ∈ WG := wt_2 29 (by decide +kernel) rfl
theorem wc_RX6_9 : Cond.classLink RX6 9 "java/lang/StringBuilder" ∈ WG := wt_2 72 (by decide +kernel) rfl
theorem wc_RX9_35 : Cond.classLink RX9 35 "OpeningsCabinet$Position" ∈ WG := wt_2 176 (by decide +kernel) rfl
theorem wi_OpeningsCabinet : Cond.initialized "OpeningsCabinet" ∈ WG := wt_1 1 (by decide +kernel) rfl
theorem wi_OpeningsCabinet_Board : Cond.initialized "OpeningsCabinet$Board" ∈ WG := wt_1 2 (by decide +kernel) rfl
theorem wi_OpeningsCabinet_Continuations : Cond.initialized "OpeningsCabinet$Continuations" ∈ WG := wt_1 18 (by decide +kernel) rfl
theorem wi_OpeningsCabinet_Endings : Cond.initialized "OpeningsCabinet$Endings" ∈ WG := wt_1 20 (by decide +kernel) rfl
theorem wi_OpeningsCabinet_Game : Cond.initialized "OpeningsCabinet$Game" ∈ WG := wt_1 5 (by decide +kernel) rfl
theorem wi_OpeningsCabinet_MoveList : Cond.initialized "OpeningsCabinet$MoveList" ∈ WG := wt_1 7 (by decide +kernel) rfl
theorem wi_OpeningsCabinet_MovesReader : Cond.initialized "OpeningsCabinet$MovesReader" ∈ WG := wt_1 8 (by decide +kernel) rfl
theorem wi_OpeningsCabinet_Papers : Cond.initialized "OpeningsCabinet$Papers" ∈ WG := wt_1 9 (by decide +kernel) rfl
theorem wi_OpeningsCabinet_Position : Cond.initialized "OpeningsCabinet$Position" ∈ WG := wt_1 4 (by decide +kernel) rfl
theorem wi_OpeningsCabinet_Rules : Cond.initialized "OpeningsCabinet$Rules" ∈ WG := wt_1 3 (by decide +kernel) rfl
theorem wi_OpeningsCabinet_Search : Cond.initialized "OpeningsCabinet$Search" ∈ WG := wt_1 19 (by decide +kernel) rfl
theorem wi_OpeningsCabinet_Shelf : Cond.initialized "OpeningsCabinet$Shelf" ∈ WG := wt_1 14 (by decide +kernel) rfl
theorem wi_OpeningsCabinetModel : Cond.initialized "OpeningsCabinetModel" ∈ WG := wt_1 25 (by decide +kernel) rfl
theorem wi_java_lang_AbstractStringBuilder : Cond.initialized "java/lang/AbstractStringBuilder" ∈ WG := wt_1 10 (by decide +kernel) rfl
theorem wi_java_lang_ArrayIndexOutOfBoundsException : Cond.initialized "java/lang/ArrayIndexOutOfBoundsException" ∈ WG := wt_1 37 (by decide +kernel) rfl
theorem wi_java_lang_IllegalArgumentException : Cond.initialized "java/lang/IllegalArgumentException" ∈ WG := wt_1 29 (by decide +kernel) rfl
theorem wi_java_lang_IllegalStateException : Cond.initialized "java/lang/IllegalStateException" ∈ WG := wt_1 31 (by decide +kernel) rfl
theorem wi_java_lang_IndexOutOfBoundsException : Cond.initialized "java/lang/IndexOutOfBoundsException" ∈ WG := wt_1 30 (by decide +kernel) rfl
theorem wi_java_lang_String : Cond.initialized "java/lang/String" ∈ WG := wt_1 12 (by decide +kernel) rfl
theorem wi_java_lang_StringBuilder : Cond.initialized "java/lang/StringBuilder" ∈ WG := wt_1 11 (by decide +kernel) rfl
theorem wi_java_lang_StringIndexOutOfBoundsException : Cond.initialized "java/lang/StringIndexOutOfBoundsException" ∈ WG := wt_1 32 (by decide +kernel) rfl
theorem wi_java_util_AbstractCollection : Cond.initialized "java/util/AbstractCollection" ∈ WG := wt_1 15 (by decide +kernel) rfl
theorem wi_java_util_AbstractList : Cond.initialized "java/util/AbstractList" ∈ WG := wt_1 16 (by decide +kernel) rfl
theorem wi_java_util_ArrayList : Cond.initialized "java/util/ArrayList" ∈ WG := wt_1 17 (by decide +kernel) rfl
theorem wi_java_util_NoSuchElementException : Cond.initialized "java/util/NoSuchElementException" ∈ WG := wt_1 40 (by decide +kernel) rfl
theorem wn_0 : Cond.instantiable RJ0 4 ∈ WG := wt_4 202 (by decide +kernel) rfl
theorem wdef_0 : ∀ j, j < 4 → defaultValue (tyJ0 j) = vp_V (wd 0) j := fun j hj => by
  rcases (show j = 0 ∨ j = 1 ∨ j = 2 ∨ j = 3 by omega) with rfl | rfl | rfl | rfl <;> rfl
theorem wn_1 : Cond.instantiable RJ4 4 ∈ WG := wt_2 73 (by decide +kernel) rfl
theorem wdef_1 : ∀ j, j < 4 → defaultValue (tyJ4 j) = vp_V (wd 1) j := fun j hj => by
  rcases (show j = 0 ∨ j = 1 ∨ j = 2 ∨ j = 3 by omega) with rfl | rfl | rfl | rfl <;> rfl
theorem wn_2 : Cond.instantiable RJx00060 6 ∈ WG := wt_5 113 (by decide +kernel) rfl
theorem wdef_2 : ∀ j, j < 6 → defaultValue (tyJx00060 j) = vp_V (wd 2) j := fun j hj => by
  rcases (show j = 0 ∨ j = 1 ∨ j = 2 ∨ j = 3 ∨ j = 4 ∨ j = 5 by omega) with rfl | rfl | rfl | rfl | rfl | rfl <;> rfl
theorem wn_3 : Cond.instantiable RJx7c733 6 ∈ WG := wt_4 77 (by decide +kernel) rfl
theorem wdef_3 : ∀ j, j < 6 → defaultValue (tyJx7c733 j) = vp_V (wd 3) j := fun j hj => by
  rcases (show j = 0 ∨ j = 1 ∨ j = 2 ∨ j = 3 ∨ j = 4 ∨ j = 5 by omega) with rfl | rfl | rfl | rfl | rfl | rfl <;> rfl
theorem wn_4 : Cond.instantiable RJx4a65c 3 ∈ WG := wt_2 122 (by decide +kernel) rfl
theorem wdef_4 : ∀ j, j < 3 → defaultValue (tyJx4a65c j) = vp_V (wd 4) j := fun j hj => by
  rcases (show j = 0 ∨ j = 1 ∨ j = 2 by omega) with rfl | rfl | rfl <;> rfl
theorem wn_5 : Cond.instantiable RX0 12 ∈ WG := wt_1 50 (by decide +kernel) rfl
theorem wdef_5 : ∀ j, j < 12 → defaultValue (tyX0 j) = vp_V (wd 5) j := fun j hj => by
  rcases (show j = 0 ∨ j = 1 ∨ j = 2 ∨ j = 3 ∨ j = 4 ∨ j = 5 ∨ j = 6 ∨ j = 7 ∨ j = 8 ∨ j = 9 ∨ j = 10 ∨ j = 11 by omega) with rfl | rfl | rfl | rfl | rfl | rfl | rfl | rfl | rfl | rfl | rfl | rfl <;> rfl
theorem wn_6 : Cond.instantiable RX1 4 ∈ WG := wt_2 152 (by decide +kernel) rfl
theorem wdef_6 : ∀ j, j < 4 → defaultValue (tyX1 j) = vp_V (wd 6) j := fun j hj => by
  rcases (show j = 0 ∨ j = 1 ∨ j = 2 ∨ j = 3 by omega) with rfl | rfl | rfl | rfl <;> rfl
theorem wn_7 : Cond.instantiable RX2 8 ∈ WG := wt_2 213 (by decide +kernel) rfl
theorem wdef_7 : ∀ j, j < 8 → defaultValue (tyX2 j) = vp_V (wd 7) j := fun j hj => by
  rcases (show j = 0 ∨ j = 1 ∨ j = 2 ∨ j = 3 ∨ j = 4 ∨ j = 5 ∨ j = 6 ∨ j = 7 by omega) with rfl | rfl | rfl | rfl | rfl | rfl | rfl | rfl <;> rfl
theorem wn_8 : Cond.instantiable RX3 9 ∈ WG := wt_1 178 (by decide +kernel) rfl
theorem wdef_8 : ∀ j, j < 9 → defaultValue (tyX3 j) = vp_V (wd 8) j := fun j hj => by
  rcases (show j = 0 ∨ j = 1 ∨ j = 2 ∨ j = 3 ∨ j = 4 ∨ j = 5 ∨ j = 6 ∨ j = 7 ∨ j = 8 by omega) with rfl | rfl | rfl | rfl | rfl | rfl | rfl | rfl | rfl <;> rfl
theorem wn_9 : Cond.instantiable RX4 8 ∈ WG := wt_1 229 (by decide +kernel) rfl
theorem wdef_9 : ∀ j, j < 8 → defaultValue (tyX4 j) = vp_V (wd 9) j := fun j hj => by
  rcases (show j = 0 ∨ j = 1 ∨ j = 2 ∨ j = 3 ∨ j = 4 ∨ j = 5 ∨ j = 6 ∨ j = 7 by omega) with rfl | rfl | rfl | rfl | rfl | rfl | rfl | rfl <;> rfl
theorem wn_10 : Cond.instantiable RX5 11 ∈ WG := wt_2 24 (by decide +kernel) rfl
theorem wdef_10 : ∀ j, j < 11 → defaultValue (tyX5 j) = vp_V (wd 10) j := fun j hj => by
  rcases (show j = 0 ∨ j = 1 ∨ j = 2 ∨ j = 3 ∨ j = 4 ∨ j = 5 ∨ j = 6 ∨ j = 7 ∨ j = 8 ∨ j = 9 ∨ j = 10 by omega) with rfl | rfl | rfl | rfl | rfl | rfl | rfl | rfl | rfl | rfl | rfl <;> rfl
theorem wn_11 : Cond.instantiable RX6 3 ∈ WG := wt_2 67 (by decide +kernel) rfl
theorem wdef_11 : ∀ j, j < 3 → defaultValue (tyX6 j) = vp_V (wd 11) j := fun j hj => by
  rcases (show j = 0 ∨ j = 1 ∨ j = 2 by omega) with rfl | rfl | rfl <;> rfl
theorem wn_12 : Cond.instantiable RX7 8 ∈ WG := wt_1 134 (by decide +kernel) rfl
theorem wdef_12 : ∀ j, j < 8 → defaultValue (tyX7 j) = vp_V (wd 12) j := fun j hj => by
  rcases (show j = 0 ∨ j = 1 ∨ j = 2 ∨ j = 3 ∨ j = 4 ∨ j = 5 ∨ j = 6 ∨ j = 7 by omega) with rfl | rfl | rfl | rfl | rfl | rfl | rfl | rfl <;> rfl
theorem wn_13 : Cond.instantiable RX8 6 ∈ WG := wt_1 109 (by decide +kernel) rfl
theorem wdef_13 : ∀ j, j < 6 → defaultValue (tyX8 j) = vp_V (wd 13) j := fun j hj => by
  rcases (show j = 0 ∨ j = 1 ∨ j = 2 ∨ j = 3 ∨ j = 4 ∨ j = 5 by omega) with rfl | rfl | rfl | rfl | rfl | rfl <;> rfl
theorem wn_14 : Cond.instantiable RX9 10 ∈ WG := wt_2 171 (by decide +kernel) rfl
theorem wdef_14 : ∀ j, j < 10 → defaultValue (tyX9 j) = vp_V (wd 14) j := fun j hj => by
  rcases (show j = 0 ∨ j = 1 ∨ j = 2 ∨ j = 3 ∨ j = 4 ∨ j = 5 ∨ j = 6 ∨ j = 7 ∨ j = 8 ∨ j = 9 by omega) with rfl | rfl | rfl | rfl | rfl | rfl | rfl | rfl | rfl | rfl <;> rfl
theorem wn_15 : Cond.instantiable RX10 1 ∈ WG := wt_2 116 (by decide +kernel) rfl
theorem wdef_15 : ∀ j, j < 1 → defaultValue (tyX10 j) = vp_V (wd 15) j := fun j hj => by
  rcases (show j = 0 by omega) with rfl <;> rfl
theorem wn_16 : Cond.instantiable RX11 18 ∈ WG := wt_1 42 (by decide +kernel) rfl
theorem wdef_16 : ∀ j, j < 18 → defaultValue (tyX11 j) = vp_V (wd 16) j := fun j hj => by
  rcases (show j = 0 ∨ j = 1 ∨ j = 2 ∨ j = 3 ∨ j = 4 ∨ j = 5 ∨ j = 6 ∨ j = 7 ∨ j = 8 ∨ j = 9 ∨ j = 10 ∨ j = 11 ∨ j = 12 ∨ j = 13 ∨ j = 14 ∨ j = 15 ∨ j = 16 ∨ j = 17 by omega) with rfl | rfl | rfl | rfl | rfl | rfl | rfl | rfl | rfl | rfl | rfl | rfl | rfl | rfl | rfl | rfl | rfl | rfl <;> rfl
theorem wn_17 : Cond.instantiable RX12 43 ∈ WG := wt_10 133 (by decide +kernel) rfl
theorem wdef_17 : ∀ j, j < 43 → defaultValue (tyX12 j) = vp_V (wd 17) j := fun j hj => by
  rcases (show j = 0 ∨ j = 1 ∨ j = 2 ∨ j = 3 ∨ j = 4 ∨ j = 5 ∨ j = 6 ∨ j = 7 ∨ j = 8 ∨ j = 9 ∨ j = 10 ∨ j = 11 ∨ j = 12 ∨ j = 13 ∨ j = 14 ∨ j = 15 ∨ j = 16 ∨ j = 17 ∨ j = 18 ∨ j = 19 ∨ j = 20 ∨ j = 21 ∨ j = 22 ∨ j = 23 ∨ j = 24 ∨ j = 25 ∨ j = 26 ∨ j = 27 ∨ j = 28 ∨ j = 29 ∨ j = 30 ∨ j = 31 ∨ j = 32 ∨ j = 33 ∨ j = 34 ∨ j = 35 ∨ j = 36 ∨ j = 37 ∨ j = 38 ∨ j = 39 ∨ j = 40 ∨ j = 41 ∨ j = 42 by omega) with rfl | rfl | rfl | rfl | rfl | rfl | rfl | rfl | rfl | rfl | rfl | rfl | rfl | rfl | rfl | rfl | rfl | rfl | rfl | rfl | rfl | rfl | rfl | rfl | rfl | rfl | rfl | rfl | rfl | rfl | rfl | rfl | rfl | rfl | rfl | rfl | rfl | rfl | rfl | rfl | rfl | rfl | rfl <;> rfl
theorem wm_RJ0_212 : Cond.methodLink RJ0 212 arraycopyName ∈ WG := wt_4 170 (by decide +kernel) rfl
theorem wm_RJ7_150 : Cond.methodLink RJ7 150 arraycopyName ∈ WG := wt_4 123 (by decide +kernel) rfl
theorem wacp : Cond.native arraycopyName ∈ WG ∧ Cond.static arraycopyName ∈ WG ∧ Cond.initialized "java/lang/System" ∈ WG := ⟨wt_4 125 (by decide +kernel) rfl, wt_4 124 (by decide +kernel) rfl, wt_1 34 (by decide +kernel) rfl⟩
theorem wg_U {c0 : Cond} {own C owner : String} {idx : Nat} {x y : MethodName} {c1 : Cond} (h1 : Cond.methodLink own idx x ∈ WG) (h2 : Cond.sameMethod x.cls owner x.name x.desc ∈ WG) (h3 : Cond.selects C x y ∈ WG) (h4 : Cond.instanceMethod y ∈ WG) (h5 : Cond.initialized y.cls ∈ WG) (h6 : c1 ∈ WG) : GoodIn (c0 :: WG) (va_wsU own idx C owner x y (c1 :: WG)) := goodIn_app2 (fun w hw => by
  simp only [List.mem_cons, List.not_mem_nil, or_false] at hw
  rcases hw with h | h | h | h | h
  · rw [h]; exact wg_good _ h1
  · rw [h]; exact wg_good _ h2
  · rw [h]; exact wg_good _ h3
  · rw [h]; exact wg_good _ h4
  · rw [h]; exact wg_good _ h5) (wg_cons h6)
theorem wg_SU {c0 : Cond} {own : String} {idx : Nat} {y : MethodName} {c1 : Cond} (h1 : Cond.methodLink own idx y ∈ WG) (h2 : Cond.sameMethod y.cls y.cls y.name y.desc ∈ WG) (h3 : Cond.superclass own y.cls ∈ WG) (h4 : Cond.instanceMethod y ∈ WG) (h5 : Cond.initialized y.cls ∈ WG) (h6 : c1 ∈ WG) : GoodIn (c0 :: WG) (va_wsSU own idx y (c1 :: WG)) := goodIn_app2 (fun w hw => by
  simp only [List.mem_cons, List.not_mem_nil, or_false] at hw
  rcases hw with h | h | h | h | h
  · rw [h]; exact wg_good _ h1
  · rw [h]; exact wg_good _ h2
  · rw [h]; exact wg_good _ h3
  · rw [h]; exact wg_good _ h4
  · rw [h]; exact wg_good _ h5) (wg_cons h6)
theorem wsup5 : Cond.superclass RJ4 RJ5 ∈ WG := wt_2 103 (by decide +kernel) rfl
theorem winit5 : Cond.initialized RJ5 ∈ WG := wt_1 10 (by decide +kernel) rfl
theorem wi5_J5_appendNull_278bc : Cond.instanceMethod yJ5_appendNull_278bc ∈ WG := wt_4 93 (by decide +kernel) rfl
theorem wsm_J5_appendNull_278bc : Cond.sameMethod RJ5 RJ5 "appendNull" "()Ljava/lang/AbstractStringBuilder;" ∈ WG := wt_14 13 (by decide +kernel) rfl
theorem wse_J5_appendNull_278bc : Cond.selects RJ4 yJ5_appendNull_278bc yJ5_appendNull_278bc ∈ WG := wt_x 0 (by decide +kernel) rfl
theorem wco_J5_appendNull_278bc : Cond.code yJ5_appendNull_278bc cJ5_appendNull_278bc 3 (some (.object "java/lang/AbstractStringBuilder")) ∈ WG := wt_4 94 (by decide +kernel) rfl
theorem wi5_J5_append_3fe6f : Cond.instanceMethod yJ5_append_3fe6f ∈ WG := wt_5 153 (by decide +kernel) rfl
theorem wsm_J5_append_3fe6f : Cond.sameMethod RJ5 RJ5 "append" "(C)Ljava/lang/AbstractStringBuilder;" ∈ WG := wt_14 21 (by decide +kernel) rfl
theorem wco_J5_append_3fe6f : Cond.code yJ5_append_3fe6f cJ5_append_3fe6f 2 (some (.object "java/lang/AbstractStringBuilder")) ∈ WG := wt_5 154 (by decide +kernel) rfl
theorem wi5_J5_append_c97b9 : Cond.instanceMethod yJ5_append_c97b9 ∈ WG := wt_4 177 (by decide +kernel) rfl
theorem wsm_J5_append_c97b9 : Cond.sameMethod RJ5 RJ5 "append" "(I)Ljava/lang/AbstractStringBuilder;" ∈ WG := wt_14 19 (by decide +kernel) rfl
theorem wco_J5_append_c97b9 : Cond.code yJ5_append_c97b9 cJ5_append_c97b9 4 (some (.object "java/lang/AbstractStringBuilder")) ∈ WG := wt_4 178 (by decide +kernel) rfl
theorem wi5_J5_append_cf1ce : Cond.instanceMethod yJ5_append_cf1ce ∈ WG := wt_4 89 (by decide +kernel) rfl
theorem wsm_J5_append_cf1ce : Cond.sameMethod RJ5 RJ5 "append" "(Ljava/lang/String;)Ljava/lang/AbstractStringBuilder;" ∈ WG := wt_14 12 (by decide +kernel) rfl
theorem wco_J5_append_cf1ce : Cond.code yJ5_append_cf1ce cJ5_append_cf1ce 3 (some (.object "java/lang/AbstractStringBuilder")) ∈ WG := wt_4 90 (by decide +kernel) rfl
theorem wi5_J5_charAt_5068e : Cond.instanceMethod yJ5_charAt_5068e ∈ WG := wt_7 111 (by decide +kernel) rfl
theorem wsm_J5_charAt_5068e : Cond.sameMethod RJ5 RJ5 "charAt" "(I)C" ∈ WG := wt_14 23 (by decide +kernel) rfl
theorem wco_J5_charAt_5068e : Cond.code yJ5_charAt_5068e cJ5_charAt_5068e 5 (some .char) ∈ WG := wt_7 112 (by decide +kernel) rfl
theorem wi5_J5_ensureCapacityInternal_d00df : Cond.instanceMethod yJ5_ensureCapacityInternal_d00df ∈ WG := wt_4 97 (by decide +kernel) rfl
theorem wsm_J5_ensureCapacityInternal_d00df : Cond.sameMethod RJ5 RJ5 "ensureCapacityInternal" "(I)V" ∈ WG := wt_14 14 (by decide +kernel) rfl
theorem wse_J5_ensureCapacityInternal_d00df : Cond.selects RJ4 yJ5_ensureCapacityInternal_d00df yJ5_ensureCapacityInternal_d00df ∈ WG := wt_x 1 (by decide +kernel) rfl
theorem wco_J5_ensureCapacityInternal_d00df : Cond.code yJ5_ensureCapacityInternal_d00df cJ5_ensureCapacityInternal_d00df 3 (none : Option Jvm.ClassFile.FieldType) ∈ WG := wt_4 98 (by decide +kernel) rfl
theorem wi5_J5_getValue_6d5f1 : Cond.instanceMethod yJ5_getValue_6d5f1 ∈ WG := wt_4 211 (by decide +kernel) rfl
theorem wsm_J5_getValue_6d5f1 : Cond.sameMethod RJ5 RJ5 "getValue" "()[B" ∈ WG := wt_4 212 (by decide +kernel) rfl
theorem wse_J5_getValue_6d5f1 : Cond.selects RJ4 yJ5_getValue_6d5f1 yJ5_getValue_6d5f1 ∈ WG := wt_4 213 (by decide +kernel) rfl
theorem wco_J5_getValue_6d5f1 : Cond.code yJ5_getValue_6d5f1 cJ5_getValue_6d5f1 1 (some (.array .byte)) ∈ WG := wt_4 214 (by decide +kernel) rfl
theorem wi5_J5_inflateIfNeededFor_a7421 : Cond.instanceMethod yJ5_inflateIfNeededFor_a7421 ∈ WG := wt_4 144 (by decide +kernel) rfl
theorem wsm_J5_inflateIfNeededFor_a7421 : Cond.sameMethod RJ5 RJ5 "inflateIfNeededFor" "(Ljava/lang/String;)V" ∈ WG := wt_14 17 (by decide +kernel) rfl
theorem wse_J5_inflateIfNeededFor_a7421 : Cond.selects RJ4 yJ5_inflateIfNeededFor_a7421 yJ5_inflateIfNeededFor_a7421 ∈ WG := wt_x 2 (by decide +kernel) rfl
theorem wco_J5_inflateIfNeededFor_a7421 : Cond.code yJ5_inflateIfNeededFor_a7421 cJ5_inflateIfNeededFor_a7421 2 (none : Option Jvm.ClassFile.FieldType) ∈ WG := wt_4 145 (by decide +kernel) rfl
theorem wi5_J5_inflate_da8c8 : Cond.instanceMethod yJ5_inflate_da8c8 ∈ WG := wt_4 149 (by decide +kernel) rfl
theorem wsm_J5_inflate_da8c8 : Cond.sameMethod RJ5 RJ5 "inflate" "()V" ∈ WG := wt_14 18 (by decide +kernel) rfl
theorem wse_J5_inflate_da8c8 : Cond.selects RJ4 yJ5_inflate_da8c8 yJ5_inflate_da8c8 ∈ WG := wt_x 3 (by decide +kernel) rfl
theorem wco_J5_inflate_da8c8 : Cond.code yJ5_inflate_da8c8 cJ5_inflate_da8c8 2 (none : Option Jvm.ClassFile.FieldType) ∈ WG := wt_4 150 (by decide +kernel) rfl
theorem wi5_J5_init_d00df : Cond.instanceMethod yJ5_init_d00df ∈ WG := wt_2 78 (by decide +kernel) rfl
theorem wco_J5_init_d00df : Cond.code yJ5_init_d00df cJ5_init_d00df 2 (none : Option Jvm.ClassFile.FieldType) ∈ WG := wt_2 79 (by decide +kernel) rfl
theorem wi5_J5_isLatin1_aae02 : Cond.instanceMethod yJ5_isLatin1_aae02 ∈ WG := wt_4 127 (by decide +kernel) rfl
theorem wsm_J5_isLatin1_aae02 : Cond.sameMethod RJ5 RJ5 "isLatin1" "()Z" ∈ WG := wt_4 128 (by decide +kernel) rfl
theorem wse_J5_isLatin1_aae02 : Cond.selects RJ4 yJ5_isLatin1_aae02 yJ5_isLatin1_aae02 ∈ WG := wt_4 129 (by decide +kernel) rfl
theorem wco_J5_isLatin1_aae02 : Cond.code yJ5_isLatin1_aae02 cJ5_isLatin1_aae02 1 (some .boolean) ∈ WG := wt_4 130 (by decide +kernel) rfl
theorem wi5_J5_length_8abf5 : Cond.instanceMethod yJ5_length_8abf5 ∈ WG := wt_4 216 (by decide +kernel) rfl
theorem wsm_J5_length_8abf5 : Cond.sameMethod RJ5 RJ5 "length" "()I" ∈ WG := wt_4 217 (by decide +kernel) rfl
theorem wco_J5_length_8abf5 : Cond.code yJ5_length_8abf5 cJ5_length_8abf5 1 (some .int) ∈ WG := wt_4 222 (by decide +kernel) rfl
theorem wi5_J5_newCapacity_0f7a4 : Cond.instanceMethod yJ5_newCapacity_0f7a4 ∈ WG := wt_4 101 (by decide +kernel) rfl
theorem wsm_J5_newCapacity_0f7a4 : Cond.sameMethod RJ5 RJ5 "newCapacity" "(I)I" ∈ WG := wt_14 15 (by decide +kernel) rfl
theorem wse_J5_newCapacity_0f7a4 : Cond.selects RJ4 yJ5_newCapacity_0f7a4 yJ5_newCapacity_0f7a4 ∈ WG := wt_x 4 (by decide +kernel) rfl
theorem wco_J5_newCapacity_0f7a4 : Cond.code yJ5_newCapacity_0f7a4 cJ5_newCapacity_0f7a4 6 (some .int) ∈ WG := wt_4 102 (by decide +kernel) rfl
theorem wi5_J5_putStringAt_47b60 : Cond.instanceMethod yJ5_putStringAt_47b60 ∈ WG := wt_4 140 (by decide +kernel) rfl
theorem wsm_J5_putStringAt_47b60 : Cond.sameMethod RJ5 RJ5 "putStringAt" "(ILjava/lang/String;)V" ∈ WG := wt_14 16 (by decide +kernel) rfl
theorem wse_J5_putStringAt_47b60 : Cond.selects RJ4 yJ5_putStringAt_47b60 yJ5_putStringAt_47b60 ∈ WG := wt_x 5 (by decide +kernel) rfl
theorem wco_J5_putStringAt_47b60 : Cond.code yJ5_putStringAt_47b60 cJ5_putStringAt_47b60 3 (none : Option Jvm.ClassFile.FieldType) ∈ WG := wt_4 141 (by decide +kernel) rfl
theorem wi5_J5_setLength_d00df : Cond.instanceMethod yJ5_setLength_d00df ∈ WG := wt_4 74 (by decide +kernel) rfl
theorem wsm_J5_setLength_d00df : Cond.sameMethod RJ5 RJ5 "setLength" "(I)V" ∈ WG := wt_14 11 (by decide +kernel) rfl
theorem wco_J5_setLength_d00df : Cond.code yJ5_setLength_d00df cJ5_setLength_d00df 2 (none : Option Jvm.ClassFile.FieldType) ∈ WG := wt_4 75 (by decide +kernel) rfl
theorem wr_byte : Cond.arrayClass (newarray.typeOf .byte) ∈ WG := wt_2 104 (by decide +kernel) rfl
theorem wr_int : Cond.arrayClass (newarray.typeOf .int) ∈ WG := wt_1 106 (by decide +kernel) rfl
theorem wr_long : Cond.arrayClass (newarray.typeOf .long) ∈ WG := wt_1 107 (by decide +kernel) rfl
theorem wr_boolean : Cond.arrayClass (newarray.typeOf .boolean) ∈ WG := wt_1 227 (by decide +kernel) rfl
theorem wr_double : Cond.arrayClass (newarray.typeOf .double) ∈ WG := wt_14 10 (by decide +kernel) rfl
theorem wa_RX11_144 {args : Array Value} {s : State} (hwg : ∀ w ∈ WG, w.before args s = true) (hN : ∀ w ∈ wNW, va_Nw w s) : ∀ w ∈ (vx_atS "OpeningsCabinet" 144 "java/lang/IllegalArgumentException" ["java/lang/RuntimeException", "java/lang/Exception"]), w.before args s = true := fun w h => by
  rcases (by decide +kernel : ∀ w ∈ (vx_atS "OpeningsCabinet" 144 "java/lang/IllegalArgumentException" ["java/lang/RuntimeException", "java/lang/Exception"]), (w ∈ lw_tbl ∧ goodWord w = true) ∨ w ∈ wNW) w h with h | h
  · exact hwg w (List.mem_filter.mpr (h.imp (List.mem_append_right _) id))
  · exact (hN w h).use (wNk_tab (wNW_ok w h))
theorem wa_RX11_239 {args : Array Value} {s : State} (hwg : ∀ w ∈ WG, w.before args s = true) (hN : ∀ w ∈ wNW, va_Nw w s) : ∀ w ∈ (vx_atS "OpeningsCabinet" 239 "java/lang/IndexOutOfBoundsException" ["java/lang/RuntimeException", "java/lang/Exception"]), w.before args s = true := fun w h => by
  rcases (by decide +kernel : ∀ w ∈ (vx_atS "OpeningsCabinet" 239 "java/lang/IndexOutOfBoundsException" ["java/lang/RuntimeException", "java/lang/Exception"]), (w ∈ lw_tbl ∧ goodWord w = true) ∨ w ∈ wNW) w h with h | h
  · exact hwg w (List.mem_filter.mpr (h.imp (List.mem_append_right _) id))
  · exact (hN w h).use (wNk_tab (wNW_ok w h))
theorem wa_RX11_289 {args : Array Value} {s : State} (hwg : ∀ w ∈ WG, w.before args s = true) (hN : ∀ w ∈ wNW, va_Nw w s) : ∀ w ∈ (vx_atS "OpeningsCabinet" 289 "java/lang/IllegalStateException" ["java/lang/RuntimeException", "java/lang/Exception"]), w.before args s = true := fun w h => by
  rcases (by decide +kernel : ∀ w ∈ (vx_atS "OpeningsCabinet" 289 "java/lang/IllegalStateException" ["java/lang/RuntimeException", "java/lang/Exception"]), (w ∈ lw_tbl ∧ goodWord w = true) ∨ w ∈ wNW) w h with h | h
  · exact hwg w (List.mem_filter.mpr (h.imp (List.mem_append_right _) id))
  · exact (hN w h).use (wNk_tab (wNW_ok w h))
theorem wa_RX11_144_ok : ∀ w ∈ Cond.classLink "OpeningsCabinet" 140 "java/lang/IllegalArgumentException" :: Cond.initialized "java/lang/IllegalArgumentException" :: vx_atS "OpeningsCabinet" 144 "java/lang/IllegalArgumentException" ["java/lang/RuntimeException", "java/lang/Exception"], vx_ot w = true := by decide +kernel
theorem wa_RX11_239_ok : ∀ w ∈ Cond.classLink "OpeningsCabinet" 235 "java/lang/IndexOutOfBoundsException" :: Cond.initialized "java/lang/IndexOutOfBoundsException" :: vx_atS "OpeningsCabinet" 239 "java/lang/IndexOutOfBoundsException" ["java/lang/RuntimeException", "java/lang/Exception"], vx_ot w = true := by decide +kernel
theorem wa_RX11_289_ok : ∀ w ∈ Cond.classLink "OpeningsCabinet" 285 "java/lang/IllegalStateException" :: Cond.initialized "java/lang/IllegalStateException" :: vx_atS "OpeningsCabinet" 289 "java/lang/IllegalStateException" ["java/lang/RuntimeException", "java/lang/Exception"], vx_ot w = true := by decide +kernel
theorem wa_RX11_376_ok : ∀ w ∈ Cond.classLink "OpeningsCabinet" 372 "java/util/NoSuchElementException" :: Cond.initialized "java/util/NoSuchElementException" :: vx_atS "OpeningsCabinet" 376 "java/util/NoSuchElementException" ["java/lang/RuntimeException", "java/lang/Exception"], vx_ot w = true := by decide +kernel
abbrev wz_L_addGame : List Cond := Cond.codeWith yL_addGame cL_addGame 7 (some .int) [(0, 14, 17, 18), (0, 14, 21, 13), (0, 14, 25, 20)] :: WG
theorem wy_L_addGame : Cond.static yL_addGame ∈ WG ∧ Cond.initialized (MethodName.cls yL_addGame) ∈ WG ∧ Cond.codeWith yL_addGame cL_addGame 7 (some .int) [(0, 14, 17, 18), (0, 14, 21, 13), (0, 14, 25, 20)] ∈ WG := ⟨wt_8 197 (by decide +kernel) rfl, wt_1 0 (by decide +kernel) rfl, wt_8 198 (by decide +kernel) rfl⟩
abbrev wz_L_answer : List Cond := Cond.codeWith yL_answer cL_answer 4 (some .int) [(0, 9, 12, 115)] :: WG
theorem wy_L_answer : Cond.static yL_answer ∈ WG ∧ Cond.initialized (MethodName.cls yL_answer) ∈ WG ∧ Cond.codeWith yL_answer cL_answer 4 (some .int) [(0, 9, 12, 115)] ∈ WG := ⟨wt_10 107 (by decide +kernel) rfl, wt_1 0 (by decide +kernel) rfl, wt_10 108 (by decide +kernel) rfl⟩
abbrev wz_L_ask : List Cond := Cond.codeWith yL_ask cL_ask 5 (some .int) [(0, 10, 13, 18), (0, 10, 17, 13)] :: WG
theorem wy_L_ask : Cond.static yL_ask ∈ WG ∧ Cond.initialized (MethodName.cls yL_ask) ∈ WG ∧ Cond.codeWith yL_ask cL_ask 5 (some .int) [(0, 10, 13, 18), (0, 10, 17, 13)] ∈ WG := ⟨wt_9 162 (by decide +kernel) rfl, wt_1 0 (by decide +kernel) rfl, wt_9 163 (by decide +kernel) rfl⟩
abbrev wz_L_asked : List Cond := Cond.codeWith yL_asked cL_asked 3 (some .int) [(0, 8, 11, 115)] :: WG
theorem wy_L_asked : Cond.static yL_asked ∈ WG ∧ Cond.initialized (MethodName.cls yL_asked) ∈ WG ∧ Cond.codeWith yL_asked cL_asked 3 (some .int) [(0, 8, 11, 115)] ∈ WG := ⟨wt_10 91 (by decide +kernel) rfl, wt_1 0 (by decide +kernel) rfl, wt_10 92 (by decide +kernel) rfl⟩
abbrev wz_L_checkers : List Cond := Cond.codeWith yL_checkers cL_checkers 3 (some .int) [(0, 8, 11, 20)] :: WG
theorem wy_L_checkers : Cond.static yL_checkers ∈ WG ∧ Cond.initialized (MethodName.cls yL_checkers) ∈ WG ∧ Cond.codeWith yL_checkers cL_checkers 3 (some .int) [(0, 8, 11, 20)] ∈ WG := ⟨wt_7 157 (by decide +kernel) rfl, wt_1 0 (by decide +kernel) rfl, wt_7 158 (by decide +kernel) rfl⟩
abbrev wz_L_continuationAt : List Cond := Cond.codeWith yL_continuationAt cL_continuationAt 5 (some .int) [(0, 10, 13, 20), (0, 10, 17, 18)] :: WG
theorem wy_L_continuationAt : Cond.static yL_continuationAt ∈ WG ∧ Cond.initialized (MethodName.cls yL_continuationAt) ∈ WG ∧ Cond.codeWith yL_continuationAt cL_continuationAt 5 (some .int) [(0, 10, 13, 20), (0, 10, 17, 18)] ∈ WG := ⟨wt_9 106 (by decide +kernel) rfl, wt_1 0 (by decide +kernel) rfl, wt_9 107 (by decide +kernel) rfl⟩
abbrev wz_L_continuations : List Cond := Cond.codeWith yL_continuations cL_continuations 4 (some .int) [(0, 9, 12, 18), (0, 9, 15, 20)] :: WG
theorem wy_L_continuations : Cond.static yL_continuations ∈ WG ∧ Cond.initialized (MethodName.cls yL_continuations) ∈ WG ∧ Cond.codeWith yL_continuations cL_continuations 4 (some .int) [(0, 9, 12, 18), (0, 9, 15, 20)] ∈ WG := ⟨wt_9 69 (by decide +kernel) rfl, wt_1 0 (by decide +kernel) rfl, wt_9 70 (by decide +kernel) rfl⟩
abbrev wz_L_count : List Cond := Cond.codeWith yL_count cL_count 4 (some .int) [(0, 9, 12, 18)] :: WG
theorem wy_L_count : Cond.static yL_count ∈ WG ∧ Cond.initialized (MethodName.cls yL_count) ∈ WG ∧ Cond.codeWith yL_count cL_count 4 (some .int) [(0, 9, 12, 18)] ∈ WG := ⟨wt_9 11 (by decide +kernel) rfl, wt_1 0 (by decide +kernel) rfl, wt_9 12 (by decide +kernel) rfl⟩
abbrev wz_L_countMoves : List Cond := Cond.codeWith yL_countMoves cL_countMoves 5 (some .int) [(0, 10, 13, 13), (0, 10, 17, 20)] :: WG
theorem wy_L_countMoves : Cond.static yL_countMoves ∈ WG ∧ Cond.initialized (MethodName.cls yL_countMoves) ∈ WG ∧ Cond.codeWith yL_countMoves cL_countMoves 5 (some .int) [(0, 10, 13, 13), (0, 10, 17, 20)] ∈ WG := ⟨wt_8 84 (by decide +kernel) rfl, wt_1 0 (by decide +kernel) rfl, wt_8 85 (by decide +kernel) rfl⟩
abbrev wz_L_countWith : List Cond := Cond.codeWith yL_countWith cL_countWith 5 (some .int) [(0, 10, 13, 18), (0, 10, 17, 13)] :: WG
theorem wy_L_countWith : Cond.static yL_countWith ∈ WG ∧ Cond.initialized (MethodName.cls yL_countWith) ∈ WG ∧ Cond.codeWith yL_countWith cL_countWith 5 (some .int) [(0, 10, 13, 18), (0, 10, 17, 13)] ∈ WG := ⟨wt_9 18 (by decide +kernel) rfl, wt_1 0 (by decide +kernel) rfl, wt_9 19 (by decide +kernel) rfl⟩
abbrev wz_L_countYears : List Cond := Cond.codeWith yL_countYears cL_countYears 6 (some .int) [(0, 12, 15, 18), (0, 12, 19, 13)] :: WG
theorem wy_L_countYears : Cond.static yL_countYears ∈ WG ∧ Cond.initialized (MethodName.cls yL_countYears) ∈ WG ∧ Cond.codeWith yL_countYears cL_countYears 6 (some .int) [(0, 12, 15, 18), (0, 12, 19, 13)] ∈ WG := ⟨wt_9 26 (by decide +kernel) rfl, wt_1 0 (by decide +kernel) rfl, wt_9 27 (by decide +kernel) rfl⟩
abbrev wz_L_endingValue : List Cond := Cond.codeWith yL_endingValue cL_endingValue 3 (some .int) [(0, 8, 11, 20)] :: WG
theorem wy_L_endingValue : Cond.static yL_endingValue ∈ WG ∧ Cond.initialized (MethodName.cls yL_endingValue) ∈ WG ∧ Cond.codeWith yL_endingValue cL_endingValue 3 (some .int) [(0, 8, 11, 20)] ∈ WG := ⟨wt_10 53 (by decide +kernel) rfl, wt_1 0 (by decide +kernel) rfl, wt_10 54 (by decide +kernel) rfl⟩
abbrev wz_L_fault : List Cond := Cond.codeWith yL_fault cL_fault 3 (some .int) [(0, 8, 11, 20)] :: WG
theorem wy_L_fault : Cond.static yL_fault ∈ WG ∧ Cond.initialized (MethodName.cls yL_fault) ∈ WG ∧ Cond.codeWith yL_fault cL_fault 3 (some .int) [(0, 8, 11, 20)] ∈ WG := ⟨wt_8 117 (by decide +kernel) rfl, wt_1 0 (by decide +kernel) rfl, wt_8 118 (by decide +kernel) rfl⟩
abbrev wz_L_firstKey : List Cond := Cond.codeWith yL_firstKey cL_firstKey 3 (some .int) [(0, 8, 11, 20), (0, 8, 14, 115)] :: WG
theorem wy_L_firstKey : Cond.static yL_firstKey ∈ WG ∧ Cond.initialized (MethodName.cls yL_firstKey) ∈ WG ∧ Cond.codeWith yL_firstKey cL_firstKey 3 (some .int) [(0, 8, 11, 20), (0, 8, 14, 115)] ∈ WG := ⟨wt_9 214 (by decide +kernel) rfl, wt_1 0 (by decide +kernel) rfl, wt_9 215 (by decide +kernel) rfl⟩
abbrev wz_L_firstNew : List Cond := Cond.codeWith yL_firstNew cL_firstNew 5 (some .int) [(0, 10, 13, 18)] :: WG
theorem wy_L_firstNew : Cond.static yL_firstNew ∈ WG ∧ Cond.initialized (MethodName.cls yL_firstNew) ∈ WG ∧ Cond.codeWith yL_firstNew cL_firstNew 5 (some .int) [(0, 10, 13, 18)] ∈ WG := ⟨wt_9 150 (by decide +kernel) rfl, wt_1 0 (by decide +kernel) rfl, wt_9 151 (by decide +kernel) rfl⟩
abbrev wz_L_forcesMate : List Cond := Cond.codeWith yL_forcesMate cL_forcesMate 3 (some .int) [(0, 8, 11, 20)] :: WG
theorem wy_L_forcesMate : Cond.static yL_forcesMate ∈ WG ∧ Cond.initialized (MethodName.cls yL_forcesMate) ∈ WG ∧ Cond.codeWith yL_forcesMate cL_forcesMate 3 (some .int) [(0, 8, 11, 20)] ∈ WG := ⟨wt_9 182 (by decide +kernel) rfl, wt_1 0 (by decide +kernel) rfl, wt_9 183 (by decide +kernel) rfl⟩
abbrev wz_L_gameCount : List Cond := Cond.codeWith yL_gameCount cL_gameCount 4 (some .int) [(0, 9, 12, 18)] :: WG
theorem wy_L_gameCount : Cond.static yL_gameCount ∈ WG ∧ Cond.initialized (MethodName.cls yL_gameCount) ∈ WG ∧ Cond.codeWith yL_gameCount cL_gameCount 4 (some .int) [(0, 9, 12, 18)] ∈ WG := ⟨wt_8 217 (by decide +kernel) rfl, wt_1 0 (by decide +kernel) rfl, wt_8 218 (by decide +kernel) rfl⟩
abbrev wz_L_gameLength : List Cond := Cond.codeWith yL_gameLength cL_gameLength 5 (some .int) [(0, 10, 13, 18)] :: WG
theorem wy_L_gameLength : Cond.static yL_gameLength ∈ WG ∧ Cond.initialized (MethodName.cls yL_gameLength) ∈ WG ∧ Cond.codeWith yL_gameLength cL_gameLength 5 (some .int) [(0, 10, 13, 18)] ∈ WG := ⟨wt_8 224 (by decide +kernel) rfl, wt_1 0 (by decide +kernel) rfl, wt_8 225 (by decide +kernel) rfl⟩
abbrev wz_L_gamesOf : List Cond := Cond.codeWith yL_gamesOf cL_gamesOf 5 (some .int) [(0, 10, 13, 20), (0, 10, 17, 18)] :: WG
theorem wy_L_gamesOf : Cond.static yL_gamesOf ∈ WG ∧ Cond.initialized (MethodName.cls yL_gamesOf) ∈ WG ∧ Cond.codeWith yL_gamesOf cL_gamesOf 5 (some .int) [(0, 10, 13, 20), (0, 10, 17, 18)] ∈ WG := ⟨wt_9 130 (by decide +kernel) rfl, wt_1 0 (by decide +kernel) rfl, wt_9 131 (by decide +kernel) rfl⟩
abbrev wz_L_isAttacked : List Cond := Cond.codeWith yL_isAttacked cL_isAttacked 5 (some .int) [(0, 17, 20, 18)] :: WG
theorem wy_L_isAttacked : Cond.static yL_isAttacked ∈ WG ∧ Cond.initialized (MethodName.cls yL_isAttacked) ∈ WG ∧ Cond.codeWith yL_isAttacked cL_isAttacked 5 (some .int) [(0, 17, 20, 18)] ∈ WG := ⟨wt_7 149 (by decide +kernel) rfl, wt_1 0 (by decide +kernel) rfl, wt_7 150 (by decide +kernel) rfl⟩
abbrev wz_L_isOpenFile : List Cond := Cond.codeWith yL_isOpenFile cL_isOpenFile 4 (some .int) [(0, 16, 19, 18)] :: WG
theorem wy_L_isOpenFile : Cond.static yL_isOpenFile ∈ WG ∧ Cond.initialized (MethodName.cls yL_isOpenFile) ∈ WG ∧ Cond.codeWith yL_isOpenFile cL_isOpenFile 4 (some .int) [(0, 16, 19, 18)] ∈ WG := ⟨wt_7 190 (by decide +kernel) rfl, wt_1 0 (by decide +kernel) rfl, wt_7 191 (by decide +kernel) rfl⟩
abbrev wz_L_isPinned : List Cond := Cond.codeWith yL_isPinned cL_isPinned 4 (some .int) [(0, 16, 19, 18), (0, 16, 22, 20)] :: WG
theorem wy_L_isPinned : Cond.static yL_isPinned ∈ WG ∧ Cond.initialized (MethodName.cls yL_isPinned) ∈ WG ∧ Cond.codeWith yL_isPinned cL_isPinned 4 (some .int) [(0, 16, 19, 18), (0, 16, 22, 20)] ∈ WG := ⟨wt_7 170 (by decide +kernel) rfl, wt_1 0 (by decide +kernel) rfl, wt_7 171 (by decide +kernel) rfl⟩
abbrev wz_L_keyCount : List Cond := Cond.codeWith yL_keyCount cL_keyCount 3 (some .int) [(0, 8, 11, 20)] :: WG
theorem wy_L_keyCount : Cond.static yL_keyCount ∈ WG ∧ Cond.initialized (MethodName.cls yL_keyCount) ∈ WG ∧ Cond.codeWith yL_keyCount cL_keyCount 3 (some .int) [(0, 8, 11, 20)] ∈ WG := ⟨wt_9 207 (by decide +kernel) rfl, wt_1 0 (by decide +kernel) rfl, wt_9 208 (by decide +kernel) rfl⟩
abbrev wz_L_longest : List Cond := Cond.codeWith yL_longest cL_longest 4 (some .int) [(0, 9, 12, 13), (0, 9, 15, 20)] :: WG
theorem wy_L_longest : Cond.static yL_longest ∈ WG ∧ Cond.initialized (MethodName.cls yL_longest) ∈ WG ∧ Cond.codeWith yL_longest cL_longest 4 (some .int) [(0, 9, 12, 13), (0, 9, 15, 20)] ∈ WG := ⟨wt_10 79 (by decide +kernel) rfl, wt_1 0 (by decide +kernel) rfl, wt_10 80 (by decide +kernel) rfl⟩
abbrev wz_L_meanLength : List Cond := Cond.codeWith yL_meanLength cL_meanLength 4 (some .int) [(0, 8, 11, 18)] :: WG
theorem wy_L_meanLength : Cond.static yL_meanLength ∈ WG ∧ Cond.initialized (MethodName.cls yL_meanLength) ∈ WG ∧ Cond.codeWith yL_meanLength cL_meanLength 4 (some .int) [(0, 8, 11, 18)] ∈ WG := ⟨wt_10 115 (by decide +kernel) rfl, wt_1 0 (by decide +kernel) rfl, wt_10 116 (by decide +kernel) rfl⟩
abbrev wz_L_meanStrength : List Cond := Cond.codeWith yL_meanStrength cL_meanStrength 5 (some .int) [(0, 10, 13, 18), (0, 10, 17, 115)] :: WG
theorem wy_L_meanStrength : Cond.static yL_meanStrength ∈ WG ∧ Cond.initialized (MethodName.cls yL_meanStrength) ∈ WG ∧ Cond.codeWith yL_meanStrength cL_meanStrength 5 (some .int) [(0, 10, 13, 18), (0, 10, 17, 115)] ∈ WG := ⟨wt_9 38 (by decide +kernel) rfl, wt_1 0 (by decide +kernel) rfl, wt_9 39 (by decide +kernel) rfl⟩
abbrev wz_L_moveBecomes : List Cond := Cond.codeWith yL_moveBecomes cL_moveBecomes 4 (some .int) [(0, 9, 12, 20), (0, 9, 15, 18)] :: WG
theorem wy_L_moveBecomes : Cond.static yL_moveBecomes ∈ WG ∧ Cond.initialized (MethodName.cls yL_moveBecomes) ∈ WG ∧ Cond.codeWith yL_moveBecomes cL_moveBecomes 4 (some .int) [(0, 9, 12, 20), (0, 9, 15, 18)] ∈ WG := ⟨wt_7 236 (by decide +kernel) rfl, wt_1 0 (by decide +kernel) rfl, wt_7 237 (by decide +kernel) rfl⟩
abbrev wz_L_moveCount : List Cond := Cond.codeWith yL_moveCount cL_moveCount 3 (some .int) [(0, 8, 11, 20)] :: WG
theorem wy_L_moveCount : Cond.static yL_moveCount ∈ WG ∧ Cond.initialized (MethodName.cls yL_moveCount) ∈ WG ∧ Cond.codeWith yL_moveCount cL_moveCount 3 (some .int) [(0, 8, 11, 20)] ∈ WG := ⟨wt_7 202 (by decide +kernel) rfl, wt_1 0 (by decide +kernel) rfl, wt_7 203 (by decide +kernel) rfl⟩
abbrev wz_L_moveFrom : List Cond := Cond.codeWith yL_moveFrom cL_moveFrom 4 (some .int) [(0, 9, 12, 20), (0, 9, 15, 18)] :: WG
theorem wy_L_moveFrom : Cond.static yL_moveFrom ∈ WG ∧ Cond.initialized (MethodName.cls yL_moveFrom) ∈ WG ∧ Cond.codeWith yL_moveFrom cL_moveFrom 4 (some .int) [(0, 9, 12, 20), (0, 9, 15, 18)] ∈ WG := ⟨wt_7 214 (by decide +kernel) rfl, wt_1 0 (by decide +kernel) rfl, wt_7 215 (by decide +kernel) rfl⟩
abbrev wz_L_moveTo : List Cond := Cond.codeWith yL_moveTo cL_moveTo 4 (some .int) [(0, 9, 12, 20), (0, 9, 15, 18)] :: WG
theorem wy_L_moveTo : Cond.static yL_moveTo ∈ WG ∧ Cond.initialized (MethodName.cls yL_moveTo) ∈ WG ∧ Cond.codeWith yL_moveTo cL_moveTo 4 (some .int) [(0, 9, 12, 20), (0, 9, 15, 18)] ∈ WG := ⟨wt_7 228 (by decide +kernel) rfl, wt_1 0 (by decide +kernel) rfl, wt_7 229 (by decide +kernel) rfl⟩
abbrev wz_L_newBoard : List Cond := Cond.codeWith yL_newBoard cL_newBoard 5 (some .int) [(0, 10, 13, 13)] :: WG
theorem wy_L_newBoard : Cond.static yL_newBoard ∈ WG ∧ Cond.initialized (MethodName.cls yL_newBoard) ∈ WG ∧ Cond.codeWith yL_newBoard cL_newBoard 5 (some .int) [(0, 10, 13, 13)] ∈ WG := ⟨wt_7 11 (by decide +kernel) rfl, wt_1 0 (by decide +kernel) rfl, wt_7 12 (by decide +kernel) rfl⟩
abbrev wz_L_outputByte : List Cond := Cond.codeWith yL_outputByte cL_outputByte 4 (some .int) [(0, 9, 12, 18)] :: WG
theorem wy_L_outputByte : Cond.static yL_outputByte ∈ WG ∧ Cond.initialized (MethodName.cls yL_outputByte) ∈ WG ∧ Cond.codeWith yL_outputByte cL_outputByte 4 (some .int) [(0, 9, 12, 18)] ∈ WG := ⟨wt_7 181 (by decide +kernel) rfl, wt_1 0 (by decide +kernel) rfl, wt_7 182 (by decide +kernel) rfl⟩
abbrev wz_L_patternCount : List Cond := Cond.codeWith yL_patternCount cL_patternCount 4 (some .int) [(0, 9, 12, 18)] :: WG
theorem wy_L_patternCount : Cond.static yL_patternCount ∈ WG ∧ Cond.initialized (MethodName.cls yL_patternCount) ∈ WG ∧ Cond.codeWith yL_patternCount cL_patternCount 4 (some .int) [(0, 9, 12, 18)] ∈ WG := ⟨wt_9 170 (by decide +kernel) rfl, wt_1 0 (by decide +kernel) rfl, wt_9 171 (by decide +kernel) rfl⟩
abbrev wz_L_pieceAt : List Cond := Cond.codeWith yL_pieceAt cL_pieceAt 4 (some .int) [(0, 9, 12, 18)] :: WG
theorem wy_L_pieceAt : Cond.static yL_pieceAt ∈ WG ∧ Cond.initialized (MethodName.cls yL_pieceAt) ∈ WG ∧ Cond.codeWith yL_pieceAt cL_pieceAt 4 (some .int) [(0, 9, 12, 18)] ∈ WG := ⟨wt_7 142 (by decide +kernel) rfl, wt_1 0 (by decide +kernel) rfl, wt_7 143 (by decide +kernel) rfl⟩
abbrev wz_L_play : List Cond := Cond.codeWith yL_play cL_play 4 (some .int) [(0, 9, 12, 20), (0, 9, 15, 18)] :: WG
theorem wy_L_play : Cond.static yL_play ∈ WG ∧ Cond.initialized (MethodName.cls yL_play) ∈ WG ∧ Cond.codeWith yL_play cL_play 4 (some .int) [(0, 9, 12, 20), (0, 9, 15, 18)] ∈ WG := ⟨wt_8 30 (by decide +kernel) rfl, wt_1 0 (by decide +kernel) rfl, wt_8 31 (by decide +kernel) rfl⟩
abbrev wz_L_playMain : List Cond := Cond.codeWith yL_playMain cL_playMain 5 (some .int) [(0, 10, 13, 18), (0, 10, 17, 13), (0, 10, 21, 20)] :: WG
theorem wy_L_playMain : Cond.static yL_playMain ∈ WG ∧ Cond.initialized (MethodName.cls yL_playMain) ∈ WG ∧ Cond.codeWith yL_playMain cL_playMain 5 (some .int) [(0, 10, 13, 18), (0, 10, 17, 13), (0, 10, 21, 20)] ∈ WG := ⟨wt_9 138 (by decide +kernel) rfl, wt_1 0 (by decide +kernel) rfl, wt_9 139 (by decide +kernel) rfl⟩
abbrev wz_L_positionCount : List Cond := Cond.codeWith yL_positionCount cL_positionCount 4 (some .int) [(0, 9, 12, 18)] :: WG
theorem wy_L_positionCount : Cond.static yL_positionCount ∈ WG ∧ Cond.initialized (MethodName.cls yL_positionCount) ∈ WG ∧ Cond.codeWith yL_positionCount cL_positionCount 4 (some .int) [(0, 9, 12, 18)] ∈ WG := ⟨wt_8 236 (by decide +kernel) rfl, wt_1 0 (by decide +kernel) rfl, wt_8 237 (by decide +kernel) rfl⟩
abbrev wz_L_put : List Cond := Cond.codeWith yL_put cL_put 5 (some .int) [(0, 10, 13, 18), (0, 10, 17, 13), (0, 10, 21, 20)] :: WG
theorem wy_L_put : Cond.static yL_put ∈ WG ∧ Cond.initialized (MethodName.cls yL_put) ∈ WG ∧ Cond.codeWith yL_put cL_put 5 (some .int) [(0, 10, 13, 18), (0, 10, 17, 13), (0, 10, 21, 20)] ∈ WG := ⟨wt_7 28 (by decide +kernel) rfl, wt_1 0 (by decide +kernel) rfl, wt_7 29 (by decide +kernel) rfl⟩
abbrev wz_L_readMoves : List Cond := Cond.codeWith yL_readMoves cL_readMoves 3 (some .int) [(0, 8, 11, 20), (0, 8, 14, 13)] :: WG
theorem wy_L_readMoves : Cond.static yL_readMoves ∈ WG ∧ Cond.initialized (MethodName.cls yL_readMoves) ∈ WG ∧ Cond.codeWith yL_readMoves cL_readMoves 3 (some .int) [(0, 8, 11, 20), (0, 8, 14, 13)] ∈ WG := ⟨wt_8 181 (by decide +kernel) rfl, wt_1 0 (by decide +kernel) rfl, wt_8 182 (by decide +kernel) rfl⟩
abbrev wz_L_readPaper : List Cond := Cond.codeWith yL_readPaper cL_readPaper 3 (some .int) [(0, 8, 11, 13), (0, 8, 14, 20)] :: WG
theorem wy_L_readPaper : Cond.static yL_readPaper ∈ WG ∧ Cond.initialized (MethodName.cls yL_readPaper) ∈ WG ∧ Cond.codeWith yL_readPaper cL_readPaper 3 (some .int) [(0, 8, 11, 13), (0, 8, 14, 20)] ∈ WG := ⟨wt_7 86 (by decide +kernel) rfl, wt_1 0 (by decide +kernel) rfl, wt_7 87 (by decide +kernel) rfl⟩
abbrev wz_L_setSide : List Cond := Cond.codeWith yL_setSide cL_setSide 5 (some .int) [(0, 10, 13, 13), (0, 10, 17, 20)] :: WG
theorem wy_L_setSide : Cond.static yL_setSide ∈ WG ∧ Cond.initialized (MethodName.cls yL_setSide) ∈ WG ∧ Cond.codeWith yL_setSide cL_setSide 5 (some .int) [(0, 10, 13, 13), (0, 10, 17, 20)] ∈ WG := ⟨wt_7 78 (by decide +kernel) rfl, wt_1 0 (by decide +kernel) rfl, wt_7 79 (by decide +kernel) rfl⟩
abbrev wz_L_shareWon : List Cond := Cond.codeWith yL_shareWon cL_shareWon 4 (some .int) [(0, 9, 12, 18)] :: WG
theorem wy_L_shareWon : Cond.static yL_shareWon ∈ WG ∧ Cond.initialized (MethodName.cls yL_shareWon) ∈ WG ∧ Cond.codeWith yL_shareWon cL_shareWon 4 (some .int) [(0, 9, 12, 18)] ∈ WG := ⟨wt_10 126 (by decide +kernel) rfl, wt_1 0 (by decide +kernel) rfl, wt_10 127 (by decide +kernel) rfl⟩
abbrev wz_L_solve : List Cond := Cond.codeWith yL_solve cL_solve 4 (some .int) [(0, 9, 12, 13), (0, 9, 15, 20)] :: WG
theorem wy_L_solve : Cond.static yL_solve ∈ WG ∧ Cond.initialized (MethodName.cls yL_solve) ∈ WG ∧ Cond.codeWith yL_solve cL_solve 4 (some .int) [(0, 9, 12, 13), (0, 9, 15, 20)] ∈ WG := ⟨wt_9 222 (by decide +kernel) rfl, wt_1 0 (by decide +kernel) rfl, wt_9 223 (by decide +kernel) rfl⟩
abbrev wz_L_state : List Cond := Cond.codeWith yL_state cL_state 3 (some .int) [(0, 8, 11, 20)] :: WG
theorem wy_L_state : Cond.static yL_state ∈ WG ∧ Cond.initialized (MethodName.cls yL_state) ∈ WG ∧ Cond.codeWith yL_state cL_state 3 (some .int) [(0, 8, 11, 20)] ∈ WG := ⟨wt_8 77 (by decide +kernel) rfl, wt_1 0 (by decide +kernel) rfl, wt_8 78 (by decide +kernel) rfl⟩
abbrev wz_L_takeBack : List Cond := Cond.codeWith yL_takeBack cL_takeBack 3 (some .int) [(0, 8, 11, 20)] :: WG
theorem wy_L_takeBack : Cond.static yL_takeBack ∈ WG ∧ Cond.initialized (MethodName.cls yL_takeBack) ∈ WG ∧ Cond.codeWith yL_takeBack cL_takeBack 3 (some .int) [(0, 8, 11, 20)] ∈ WG := ⟨wt_8 68 (by decide +kernel) rfl, wt_1 0 (by decide +kernel) rfl, wt_8 69 (by decide +kernel) rfl⟩
abbrev wz_L_type : List Cond := Cond.codeWith yL_type cL_type 5 (some .int) [(0, 9, 12, 13), (0, 9, 16, 20)] :: WG
theorem wy_L_type : Cond.static yL_type ∈ WG ∧ Cond.initialized (MethodName.cls yL_type) ∈ WG ∧ Cond.codeWith yL_type cL_type 5 (some .int) [(0, 9, 12, 13), (0, 9, 16, 20)] ∈ WG := ⟨wt_8 108 (by decide +kernel) rfl, wt_1 0 (by decide +kernel) rfl, wt_8 109 (by decide +kernel) rfl⟩
abbrev wz_L_writeMove : List Cond := Cond.codeWith yL_writeMove cL_writeMove 4 (some .int) [(0, 9, 12, 20), (0, 9, 15, 18)] :: WG
theorem wy_L_writeMove : Cond.static yL_writeMove ∈ WG ∧ Cond.initialized (MethodName.cls yL_writeMove) ∈ WG ∧ Cond.codeWith yL_writeMove cL_writeMove 4 (some .int) [(0, 9, 12, 20), (0, 9, 15, 18)] ∈ WG := ⟨wt_8 4 (by decide +kernel) rfl, wt_1 0 (by decide +kernel) rfl, wt_8 5 (by decide +kernel) rfl⟩
