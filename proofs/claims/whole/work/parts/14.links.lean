theorem lc_X0_9 : (rs_lc RX0 9).isSome = true := by decide +kernel
theorem lc_X0_11 : (rs_lc RX0 11).isSome = true := by decide +kernel
theorem lk0_X0_13 : rs_lk 0 RX0 13 = some (yX0_up, 1, 12) := by decide +kernel
theorem lk0_X0_17 : rs_lk 0 RX0 17 = some (yX0_down, 1, 12) := by decide +kernel
theorem lk0_X0_20 : rs_lk 0 RX0 20 = some (yX0_of, 2, 12) := by decide +kernel
theorem oi_X1_3 : rs_oi RX1 3 = true := by decide +kernel
theorem lc_X1_11 : (rs_lc RX1 11).isSome = true := by decide +kernel
theorem nk_int : rs_nk .int = some 12 := by decide +kernel
theorem nw_X1_9 : rs_nw RX1 9 = some (0, 8) := by decide +kernel
theorem lk2_X1_40 : rs_lk 2 RX1 40 = some (yX1_init, 0, 0) := by decide +kernel
theorem oi_X1_40 : rs_oi RX1 40 = false := by decide +kernel
theorem fg_X1_13 : rs_fl RX1 13 = some (0, 0, .long, false) := by decide +kernel
theorem fg_X1_17 : rs_fl RX1 17 = some (0, 1, .long, false) := by decide +kernel
theorem fg_X1_20 : rs_fl RX1 20 = some (0, 2, .int, false) := by decide +kernel
theorem fg_X1_24 : rs_fl RX1 24 = some (0, 3, .int, false) := by decide +kernel
theorem fg_X1_27 : rs_fl RX1 27 = some (0, 4, .int, false) := by decide +kernel
theorem fg_X1_30 : rs_fl RX1 30 = some (0, 5, .int, false) := by decide +kernel
theorem lk1_X1_41 : rs_lk 1 RX1 41 = some (yX1_sizeAt, 1, 0) := by decide +kernel
theorem lk1_X1_45 : rs_lk 1 RX1 45 = some (yX1_priceAt, 1, 0) := by decide +kernel
theorem lk1_X1_48 : rs_lk 1 RX1 48 = some (yX1_addPack, 2, 0) := by decide +kernel
theorem lc_X1_54 : (rs_lc RX1 54).isSome = true := by decide +kernel
theorem lk0_X1_56 : rs_lk 0 RX1 56 = some (yX11_isSet, 2, 10) := by decide +kernel
theorem lk0_X1_60 : rs_lk 0 RX1 60 = some (yX0_roundedUp, 1, 12) := by decide +kernel
theorem lm_X1_64 : rs_lk 0 RX1 64 = none := by decide +kernel
theorem jm_X1_64 : rs_jm RX1 64 = some 0 := by decide +kernel
theorem fg_X1_33 : rs_fl RX1 33 = some (0, 6, (.array .int), true) := by decide +kernel
theorem fg_X1_37 : rs_fl RX1 37 = some (0, 7, (.array .int), true) := by decide +kernel
theorem oi_X2_3 : rs_oi RX2 3 = true := by decide +kernel
theorem fg_X2_19 : rs_fl RX2 19 = some (1, 2, .int, true) := by decide +kernel
theorem oi_X3_3 : rs_oi RX3 3 = true := by decide +kernel
theorem nw_X3_9 : rs_nw RX3 9 = some (8, 1) := by decide +kernel
theorem lk2_X3_11 : rs_lk 2 RX3 11 = some (yX9_init, 1, 8) := by decide +kernel
theorem oi_X3_11 : rs_oi RX3 11 = false := by decide +kernel
theorem fg_X3_32 : rs_fl RX3 32 = some (2, 5, .int, false) := by decide +kernel
theorem fg_X3_14 : rs_fl RX3 14 = some (2, 0, (.object "RecipeScaler$Sums"), true) := by decide +kernel
theorem lk1_X3_39 : rs_lk 1 RX3 39 = some (yX9_clear, 0, 8) := by decide +kernel
theorem lk1_X3_42 : rs_lk 1 RX3 42 = some (yX7_recipeAt, 1, 6) := by decide +kernel
theorem lk1_X3_48 : rs_lk 1 RX3 48 = some (yX3_walk, 5, 2) := by decide +kernel
theorem fg_X3_52 : rs_fl RX3 52 = some (4, 1, (.array (.object "RecipeScaler$Item")), true) := by decide +kernel
theorem fg_X3_36 : rs_fl RX3 36 = some (2, 6, .int, false) := by decide +kernel
theorem lk1_X3_58 : rs_lk 1 RX3 58 = some (yX2_isOfRecipe, 0, 1) := by decide +kernel
theorem lk1_X3_64 : rs_lk 1 RX3 64 = some (yX3_enter, 5, 2) := by decide +kernel
theorem lk0_X3_68 : rs_lk 0 RX3 68 = some (yX3_addItem, 4, 2) := by decide +kernel
theorem lk1_X3_72 : rs_lk 1 RX3 72 = some (yX2_innerRecipe, 0, 1) := by decide +kernel
theorem lk0_X3_76 : rs_lk 0 RX3 76 = some (yX11_isSet, 2, 10) := by decide +kernel
theorem fg_X3_80 : rs_fl RX3 80 = some (4, 3, .int, true) := by decide +kernel
theorem fg_X3_83 : rs_fl RX3 83 = some (1, 1, .int, true) := by decide +kernel
theorem lk0_X3_84 : rs_lk 0 RX3 84 = some (yX3_factorOf, 3, 2) := by decide +kernel
theorem fg_X3_88 : rs_fl RX3 88 = some (1, 0, .long, true) := by decide +kernel
theorem lk0_X3_92 : rs_lk 0 RX3 92 = some (yX0_product, 2, 12) := by decide +kernel
theorem fg_X3_98 : rs_fl RX3 98 = some (4, 2, .long, true) := by decide +kernel
theorem lk0_X3_99 : rs_lk 0 RX3 99 = some (yX0_quotient, 2, 12) := by decide +kernel
theorem fg_X3_102 : rs_fl RX3 102 = some (1, 2, .int, true) := by decide +kernel
theorem lk1_X3_105 : rs_lk 1 RX3 105 = some (yX7_ingredientAt, 1, 6) := by decide +kernel
theorem lc_X3_111 : (rs_lc RX3 111).isSome = true := by decide +kernel
theorem lk1_X3_113 : rs_lk 1 RX3 113 = some (yX1_gramsOf, 1, 0) := by decide +kernel
theorem lk1_X3_117 : rs_lk 1 RX3 117 = some (yX9_add, 2, 8) := by decide +kernel
theorem fg_X3_20 : rs_fl RX3 20 = some (2, 1, (.object "RecipeScaler$Sums"), true) := by decide +kernel
theorem lk1_X3_121 : rs_lk 1 RX3 121 = some (yX9_copyFrom, 1, 8) := by decide +kernel
theorem fg_X3_26 : rs_fl RX3 26 = some (2, 3, (.object "RecipeScaler$Sums"), true) := by decide +kernel
theorem lk1_X3_125 : rs_lk 1 RX3 125 = some (yX3_replaceOne, 2, 2) := by decide +kernel
theorem lk1_X3_129 : rs_lk 1 RX3 129 = some (yX7_substitutionAt, 1, 6) := by decide +kernel
theorem fg_X3_133 : rs_fl RX3 133 = some (7, 0, .int, true) := by decide +kernel
theorem lk1_X3_138 : rs_lk 1 RX3 138 = some (yX9_at, 1, 8) := by decide +kernel
theorem lk1_X3_141 : rs_lk 1 RX3 141 = some (yX8_holds, 2, 7) := by decide +kernel
theorem lk1_X3_145 : rs_lk 1 RX3 145 = some (yX8_kept, 1, 7) := by decide +kernel
theorem lk0_X3_149 : rs_lk 0 RX3 149 = some (yX0_lessWhole, 2, 12) := by decide +kernel
theorem lk1_X3_153 : rs_lk 1 RX3 153 = some (yX9_put, 2, 8) := by decide +kernel
theorem lk0_X3_157 : rs_lk 0 RX3 157 = some (yX0_of, 2, 12) := by decide +kernel
theorem fg_X3_160 : rs_fl RX3 160 = some (7, 1, .int, true) := by decide +kernel
theorem fg_X3_163 : rs_fl RX3 163 = some (7, 2, .long, true) := by decide +kernel
theorem lk1_X3_166 : rs_lk 1 RX3 166 = some (yX7_planRecipe, 0, 6) := by decide +kernel
theorem fg_X3_23 : rs_fl RX3 23 = some (2, 2, (.object "RecipeScaler$Sums"), true) := by decide +kernel
theorem fg_X3_29 : rs_fl RX3 29 = some (2, 4, (.object "RecipeScaler$Sums"), true) := by decide +kernel
theorem lk1_X3_169 : rs_lk 1 RX3 169 = some (yX7_planFactor, 0, 6) := by decide +kernel
theorem lk1_X3_173 : rs_lk 1 RX3 173 = some (yX7_recipesWithin, 1, 6) := by decide +kernel
theorem lk0_X3_177 : rs_lk 0 RX3 177 = some (yX3_lowestUncontained, 2, 2) := by decide +kernel
theorem lk1_X3_180 : rs_lk 1 RX3 180 = some (yX3_goThrough, 2, 2) := by decide +kernel
theorem lk1_X3_184 : rs_lk 1 RX3 184 = some (yX7_recipesDirectlyIn, 1, 6) := by decide +kernel
theorem fg_X3_187 : rs_fl RX3 187 = some (4, 0, .int, true) := by decide +kernel
theorem lk1_X3_190 : rs_lk 1 RX3 190 = some (yX3_addFactor, 3, 2) := by decide +kernel
theorem lk0_X3_194 : rs_lk 0 RX3 194 = some (yX0_isAbove, 2, 12) := by decide +kernel
theorem fg_X3_198 : rs_fl RX3 198 = some (0, 4, .int, false) := by decide +kernel
theorem lk0_X3_201 : rs_lk 0 RX3 201 = some (yX0_isLess, 2, 12) := by decide +kernel
theorem oi_X4_3 : rs_oi RX4 3 = true := by decide +kernel
theorem fg_X4_15 : rs_fl RX4 15 = some (3, 1, .int, false) := by decide +kernel
theorem fg_X4_9 : rs_fl RX4 9 = some (3, 0, (.array .int), true) := by decide +kernel
theorem lk1_X4_22 : rs_lk 1 RX4 22 = some (yX4_walk, 5, 3) := by decide +kernel
theorem lk0_X4_26 : rs_lk 0 RX4 26 = some (yX11_isSet, 2, 10) := by decide +kernel
theorem lk1_X4_30 : rs_lk 1 RX4 30 = some (yX7_recipeAt, 1, 6) := by decide +kernel
theorem fg_X4_19 : rs_fl RX4 19 = some (3, 2, .int, false) := by decide +kernel
theorem lk1_X4_36 : rs_lk 1 RX4 36 = some (yX4_putStep, 2, 3) := by decide +kernel
theorem fg_X4_40 : rs_fl RX4 40 = some (4, 1, (.array (.object "RecipeScaler$Item")), true) := by decide +kernel
theorem lk1_X4_46 : rs_lk 1 RX4 46 = some (yX2_isOfRecipe, 0, 1) := by decide +kernel
theorem lk1_X4_52 : rs_lk 1 RX4 52 = some (yX4_enter, 5, 3) := by decide +kernel
theorem lk1_X4_56 : rs_lk 1 RX4 56 = some (yX4_look, 4, 3) := by decide +kernel
theorem lk1_X4_60 : rs_lk 1 RX4 60 = some (yX2_innerRecipe, 0, 1) := by decide +kernel
theorem fg_X4_64 : rs_fl RX4 64 = some (1, 2, .int, true) := by decide +kernel
theorem lk1_X4_67 : rs_lk 1 RX4 67 = some (yX7_ingredientAt, 1, 6) := by decide +kernel
theorem lk1_X4_71 : rs_lk 1 RX4 71 = some (yX1_concerns, 1, 0) := by decide +kernel
theorem oi_X5_1 : rs_oi RX5 1 = true := by decide +kernel
theorem fg_X5_13 : rs_fl RX5 13 = some (4, 1, (.array (.object "RecipeScaler$Item")), true) := by decide +kernel
theorem lk1_X5_27 : rs_lk 1 RX5 27 = some (yX2_isOfRecipe, 0, 1) := by decide +kernel
theorem lk1_X5_33 : rs_lk 1 RX5 33 = some (yX2_innerRecipe, 0, 1) := by decide +kernel
theorem fg_X5_37 : rs_fl RX5 37 = some (1, 2, .int, true) := by decide +kernel
theorem oi_X6_7 : rs_oi RX6 7 = true := by decide +kernel
theorem nk_long : rs_nk .long = some 13 := by decide +kernel
theorem lc_X6_17 : (rs_lc RX6 17).isSome = true := by decide +kernel
theorem fg_X6_19 : rs_fl RX6 19 = some (5, 1, .long, false) := by decide +kernel
theorem fg_X6_23 : rs_fl RX6 23 = some (5, 2, .int, false) := by decide +kernel
theorem fg_X6_27 : rs_fl RX6 27 = some (5, 3, .int, false) := by decide +kernel
theorem lc_X6_49 : (rs_lc RX6 49).isSome = true := by decide +kernel
theorem fg_X6_30 : rs_fl RX6 30 = some (5, 4, (.array .int), true) := by decide +kernel
theorem fg_X6_34 : rs_fl RX6 34 = some (5, 5, .int, false) := by decide +kernel
theorem fg_X6_37 : rs_fl RX6 37 = some (5, 6, .int, false) := by decide +kernel
theorem fg_X6_40 : rs_fl RX6 40 = some (5, 7, .int, false) := by decide +kernel
theorem fg_X6_43 : rs_fl RX6 43 = some (5, 8, .int, false) := by decide +kernel
theorem fg_X6_46 : rs_fl RX6 46 = some (5, 9, .int, false) := by decide +kernel
theorem lk1_X6_51 : rs_lk 1 RX6 51 = some (yX7_ingredientAt, 1, 6) := by decide +kernel
theorem lk1_X6_57 : rs_lk 1 RX6 57 = some (yX9_at, 1, 8) := by decide +kernel
theorem lk1_X6_63 : rs_lk 1 RX6 63 = some (yX6_fillOne, 3, 5) := by decide +kernel
theorem lk1_X6_67 : rs_lk 1 RX6 67 = some (yX1_lack, 1, 0) := by decide +kernel
theorem lk1_X6_73 : rs_lk 1 RX6 73 = some (yX1_hasPacksFor, 1, 0) := by decide +kernel
theorem lk1_X6_77 : rs_lk 1 RX6 77 = some (yX6_choose, 2, 5) := by decide +kernel
theorem lk1_X6_81 : rs_lk 1 RX6 81 = some (yX6_chosenPrice, 0, 5) := by decide +kernel
theorem lk1_X6_85 : rs_lk 1 RX6 85 = some (yX6_bestWithLastPack, 2, 5) := by decide +kernel
theorem lk1_X6_89 : rs_lk 1 RX6 89 = some (yX6_putBest, 2, 5) := by decide +kernel
theorem lc_X6_93 : (rs_lc RX6 93).isSome = true := by decide +kernel
theorem lk1_X6_95 : rs_lk 1 RX6 95 = some (yX1_packCount, 0, 0) := by decide +kernel
theorem lk1_X6_98 : rs_lk 1 RX6 98 = some (yX1_sizeAt, 1, 0) := by decide +kernel
theorem lk1_X6_102 : rs_lk 1 RX6 102 = some (yX6_bestAt, 1, 5) := by decide +kernel
theorem lk1_X6_105 : rs_lk 1 RX6 105 = some (yX1_priceAt, 1, 0) := by decide +kernel
theorem lk0_X6_108 : rs_lk 0 RX6 108 = some (yX6_onePack, 2, 5) := by decide +kernel
theorem lm_X6_112 : rs_lk 0 RX6 112 = none := by decide +kernel
theorem jm_X6_112 : rs_jm RX6 112 = some 2 := by decide +kernel
theorem fg_X6_13 : rs_fl RX6 13 = some (5, 0, (.array .long), true) := by decide +kernel
theorem lc_X6_118 : (rs_lc RX6 118).isSome = true := by decide +kernel
theorem lc_X6_120 : (rs_lc RX6 120).isSome = true := by decide +kernel
theorem oi_X7_3 : rs_oi RX7 3 = true := by decide +kernel
theorem na_X7_9 : rs_na RX7 9 = some 17 := by decide +kernel
theorem na_X7_17 : rs_na RX7 17 = some 15 := by decide +kernel
theorem na_X7_23 : rs_na RX7 23 = some 19 := by decide +kernel
theorem nw_X7_12 : rs_nw RX7 12 = some (6, 5) := by decide +kernel
theorem lk2_X7_39 : rs_lk 2 RX7 39 = some (yX7_init, 0, 6) := by decide +kernel
theorem oi_X7_39 : rs_oi RX7 39 = false := by decide +kernel
theorem nw_X7_17 : rs_nw RX7 17 = some (0, 8) := by decide +kernel
theorem lk2_X7_40 : rs_lk 2 RX7 40 = some (yX1_init, 0, 0) := by decide +kernel
theorem oi_X7_40 : rs_oi RX7 40 = false := by decide +kernel
theorem lk1_X7_41 : rs_lk 1 RX7 41 = some (yX7_putIngredient, 2, 6) := by decide +kernel
theorem lk1_X7_45 : rs_lk 1 RX7 45 = some (yX7_recipeAt, 1, 6) := by decide +kernel
theorem lk1_X7_49 : rs_lk 1 RX7 49 = some (yX7_putRecipe, 2, 6) := by decide +kernel
theorem lk1_X7_53 : rs_lk 1 RX7 53 = some (yX7_ingredientAt, 1, 6) := by decide +kernel
theorem lk1_X7_57 : rs_lk 1 RX7 57 = some (yX7_substitutionAt, 1, 6) := by decide +kernel
theorem lk1_X7_61 : rs_lk 1 RX7 61 = some (yX7_putSubstitution, 2, 6) := by decide +kernel
theorem fg_X7_29 : rs_fl RX7 29 = some (6, 3, .int, false) := by decide +kernel
theorem fg_X7_35 : rs_fl RX7 35 = some (6, 4, .long, false) := by decide +kernel
theorem fg_X7_11 : rs_fl RX7 11 = some (6, 0, (.array (.object "RecipeScaler$Recipe")), true) := by decide +kernel
theorem fg_X7_19 : rs_fl RX7 19 = some (6, 1, (.array (.object "RecipeScaler$Ingredient")), true) := by decide +kernel
theorem fg_X7_25 : rs_fl RX7 25 = some (6, 2, (.array (.object "RecipeScaler$Substitution")), true) := by decide +kernel
theorem lm_X7_65 : rs_lk 0 RX7 65 = none := by decide +kernel
theorem jm_X7_65 : rs_jm RX7 65 = some 0 := by decide +kernel
theorem lk1_X7_71 : rs_lk 1 RX7 71 = some (yX7_copy, 0, 6) := by decide +kernel
theorem lk1_X7_75 : rs_lk 1 RX7 75 = some (yX7_withPlan, 2, 6) := by decide +kernel
theorem lk0_X7_79 : rs_lk 0 RX7 79 = some (yX11_isSet, 2, 10) := by decide +kernel
theorem lk1_X7_83 : rs_lk 1 RX7 83 = some (yX5_recipeSet, 0, 4) := by decide +kernel
theorem lk1_X7_87 : rs_lk 1 RX7 87 = some (yX7_recipesDirectlyIn, 1, 6) := by decide +kernel
theorem lk1_X7_91 : rs_lk 1 RX7 91 = some (yX7_recipesWithin, 1, 6) := by decide +kernel
theorem lk1_X7_94 : rs_lk 1 RX7 94 = some (yX5_ingredientSet, 0, 4) := by decide +kernel
theorem oi_X8_3 : rs_oi RX8 3 = true := by decide +kernel
theorem ic_X8_28 : (rs_ic RX8 28).isSome = true := by decide +kernel
theorem fg_X8_22 : rs_fl RX8 22 = some (7, 3, .int, true) := by decide +kernel
theorem fg_X8_25 : rs_fl RX8 25 = some (7, 4, .int, true) := by decide +kernel
theorem lk1_X8_29 : rs_lk 1 RX8 29 = some (yX1_concerns, 1, 0) := by decide +kernel
theorem lk0_X8_35 : rs_lk 0 RX8 35 = some (yX0_isAbove, 2, 12) := by decide +kernel
theorem fg_X8_41 : rs_fl RX8 41 = some (0, 4, .int, false) := by decide +kernel
theorem oi_X9_3 : rs_oi RX9 3 = true := by decide +kernel
theorem lm_X9_9 : rs_lk 0 RX9 9 = none := by decide +kernel
theorem jm_X9_9 : rs_jm RX9 9 = some 0 := by decide +kernel
theorem fg_X9_15 : rs_fl RX9 15 = some (8, 0, (.array .long), true) := by decide +kernel
theorem lk1_X9_23 : rs_lk 1 RX9 23 = some (yX9_at, 1, 8) := by decide +kernel
theorem lk0_X9_27 : rs_lk 0 RX9 27 = some (yX0_sum, 2, 12) := by decide +kernel
theorem lk1_X9_31 : rs_lk 1 RX9 31 = some (yX9_put, 2, 8) := by decide +kernel
theorem oi_X10_3 : rs_oi RX10 3 = true := by decide +kernel
theorem fg_X10_15 : rs_fl RX10 15 = some (9, 1, .int, false) := by decide +kernel
theorem fg_X10_19 : rs_fl RX10 19 = some (9, 2, .int, false) := by decide +kernel
theorem fg_X10_11 : rs_fl RX10 11 = some (9, 0, (.array .int), true) := by decide +kernel
theorem lk1_X10_22 : rs_lk 1 RX10 22 = some (yX10_takeBetween, 2, 9) := by decide +kernel
theorem lk1_X10_26 : rs_lk 1 RX10 26 = some (yX10_take, 1, 9) := by decide +kernel
theorem na_X10_30 : rs_na RX10 30 = some 16 := by decide +kernel
theorem lk1_X10_32 : rs_lk 1 RX10 32 = some (yX10_takeItems, 1, 9) := by decide +kernel
theorem lk1_X10_36 : rs_lk 1 RX10 36 = some (yX10_takeAmount, 0, 9) := by decide +kernel
theorem lk1_X10_40 : rs_lk 1 RX10 40 = some (yX10_takeUnit, 0, 9) := by decide +kernel
theorem lk1_X10_44 : rs_lk 1 RX10 44 = some (yX10_takeNumber, 0, 9) := by decide +kernel
theorem nw_X10_47 : rs_nw RX10 47 = some (4, 5) := by decide +kernel
theorem lk2_X10_49 : rs_lk 2 RX10 49 = some (yX5_init, 5, 4) := by decide +kernel
theorem oi_X10_49 : rs_oi RX10 49 = false := by decide +kernel
theorem lk1_X10_52 : rs_lk 1 RX10 52 = some (yX10_takeItem, 0, 9) := by decide +kernel
theorem lk1_X10_56 : rs_lk 1 RX10 56 = some (yX10_takeSource, 0, 9) := by decide +kernel
theorem nw_X10_30 : rs_nw RX10 30 = some (1, 3) := by decide +kernel
theorem lk2_X10_59 : rs_lk 2 RX10 59 = some (yX2_init, 3, 1) := by decide +kernel
theorem oi_X10_59 : rs_oi RX10 59 = false := by decide +kernel
theorem lc_X10_62 : (rs_lc RX10 62).isSome = true := by decide +kernel
theorem lk0_X10_64 : rs_lk 0 RX10 64 = some (yX0_of, 2, 12) := by decide +kernel
theorem oi_X11_3 : rs_oi RX11 3 = true := by decide +kernel
theorem lk0_X11_9 : rs_lk 0 RX11 9 = some (yX7_initial, 0, 6) := by decide +kernel
theorem na_X11_10 : rs_na RX11 10 = some 18 := by decide +kernel
theorem nw_X11_35 : rs_nw RX11 35 = some (9, 3) := by decide +kernel
theorem lk2_X11_37 : rs_lk 2 RX11 37 = some (yX10_init, 0, 9) := by decide +kernel
theorem oi_X11_37 : rs_oi RX11 37 = false := by decide +kernel
theorem nw_X11_42 : rs_nw RX11 42 = some (2, 7) := by decide +kernel
theorem lk2_X11_44 : rs_lk 2 RX11 44 = some (yX3_init, 0, 2) := by decide +kernel
theorem oi_X11_44 : rs_oi RX11 44 = false := by decide +kernel
theorem nw_X11_49 : rs_nw RX11 49 = some (5, 10) := by decide +kernel
theorem lk2_X11_51 : rs_lk 2 RX11 51 = some (yX6_init, 0, 5) := by decide +kernel
theorem oi_X11_51 : rs_oi RX11 51 = false := by decide +kernel
theorem nw_X11_56 : rs_nw RX11 56 = some (3, 3) := by decide +kernel
theorem lk2_X11_58 : rs_lk 2 RX11 58 = some (yX4_init, 0, 3) := by decide +kernel
theorem oi_X11_58 : rs_oi RX11 58 = false := by decide +kernel
theorem lk0_X11_63 : rs_lk 0 RX11 63 = some (yX11_isWithin, 3, 10) := by decide +kernel
theorem lk0_X11_67 : rs_lk 0 RX11 67 = some (yX11_isByte, 1, 10) := by decide +kernel
theorem fg_X11_38 : rs_fl RX11 38 = some (10, 5, (.object "RecipeScaler$Tape"), true) := by decide +kernel
theorem lk1_X11_71 : rs_lk 1 RX11 71 = some (yX10_length, 0, 9) := by decide +kernel
theorem lk1_X11_75 : rs_lk 1 RX11 75 = some (yX10_append, 1, 9) := by decide +kernel
theorem lk1_X11_79 : rs_lk 1 RX11 79 = some (yX10_takeRecipe, 0, 9) := by decide +kernel
theorem lk1_X11_83 : rs_lk 1 RX11 83 = some (yX10_clear, 0, 9) := by decide +kernel
theorem lk1_X11_86 : rs_lk 1 RX11 86 = some (yX10_errorPosition, 0, 9) := by decide +kernel
theorem fg_X11_15 : rs_fl RX11 15 = some (10, 0, (.object "RecipeScaler$State"), false) := by decide +kernel
theorem lk1_X11_89 : rs_lk 1 RX11 89 = some (yX7_copy, 0, 6) := by decide +kernel
theorem fg_X11_92 : rs_fl RX11 92 = some (4, 0, .int, true) := by decide +kernel
theorem lk1_X11_97 : rs_lk 1 RX11 97 = some (yX7_putRecipe, 2, 6) := by decide +kernel
theorem lk1_X11_101 : rs_lk 1 RX11 101 = some (yX11_commit, 1, 10) := by decide +kernel
theorem lk0_X11_105 : rs_lk 0 RX11 105 = some (yX11_isRecipe, 1, 10) := by decide +kernel
theorem lk1_X11_108 : rs_lk 1 RX11 108 = some (yX7_recipeAt, 1, 6) := by decide +kernel
theorem lk1_X11_112 : rs_lk 1 RX11 112 = some (yX5_itemCount, 0, 4) := by decide +kernel
theorem lk1_X11_115 : rs_lk 1 RX11 115 = some (yX11_changeGrams, 4, 10) := by decide +kernel
theorem lk1_X11_119 : rs_lk 1 RX11 119 = some (yX7_ingredientAt, 1, 6) := by decide +kernel
theorem lk1_X11_123 : rs_lk 1 RX11 123 = some (yX1_copy, 0, 0) := by decide +kernel
theorem lk1_X11_134 : rs_lk 1 RX11 134 = some (yX11_replaceIngredient, 2, 10) := by decide +kernel
theorem fg_X11_128 : rs_fl RX11 128 = some (0, 2, .int, false) := by decide +kernel
theorem fg_X11_131 : rs_fl RX11 131 = some (0, 3, .int, false) := by decide +kernel
theorem ic_X11_138 : (rs_ic RX11 138).isSome = true := by decide +kernel
theorem fg_X11_139 : rs_fl RX11 139 = some (0, 4, .int, false) := by decide +kernel
theorem lk1_X11_142 : rs_lk 1 RX11 142 = some (yX1_packCount, 0, 0) := by decide +kernel
theorem lk1_X11_145 : rs_lk 1 RX11 145 = some (yX1_addPack, 2, 0) := by decide +kernel
theorem lk1_X11_149 : rs_lk 1 RX11 149 = some (yX1_dropLastPack, 0, 0) := by decide +kernel
theorem lk0_X11_152 : rs_lk 0 RX11 152 = some (yX11_isIngredient, 1, 10) := by decide +kernel
theorem lk0_X11_155 : rs_lk 0 RX11 155 = some (yX8_greatestValue, 1, 7) := by decide +kernel
theorem lk1_X11_161 : rs_lk 1 RX11 161 = some (yX7_substitutionCount, 0, 6) := by decide +kernel
theorem nw_X11_156 : rs_nw RX11 156 = some (7, 5) := by decide +kernel
theorem lk0_X11_164 : rs_lk 0 RX11 164 = some (yX0_of, 2, 12) := by decide +kernel
theorem lk2_X11_170 : rs_lk 2 RX11 170 = some (yX8_init, 5, 7) := by decide +kernel
theorem oi_X11_170 : rs_oi RX11 170 = false := by decide +kernel
theorem lk1_X11_173 : rs_lk 1 RX11 173 = some (yX7_putSubstitution, 2, 6) := by decide +kernel
theorem lk1_X11_177 : rs_lk 1 RX11 177 = some (yX7_substitutionAt, 1, 6) := by decide +kernel
theorem lk1_X11_181 : rs_lk 1 RX11 181 = some (yX7_dropSubstitution, 1, 6) := by decide +kernel
theorem lk1_X11_184 : rs_lk 1 RX11 184 = some (yX7_withPlan, 2, 6) := by decide +kernel
theorem lk1_X11_188 : rs_lk 1 RX11 188 = some (yX11_findPlan, 0, 10) := by decide +kernel
theorem fg_X11_192 : rs_fl RX11 192 = some (4, 4, .int, true) := by decide +kernel
theorem fg_X11_52 : rs_fl RX11 52 = some (10, 7, (.object "RecipeScaler$Shopping"), true) := by decide +kernel
theorem fg_X11_45 : rs_fl RX11 45 = some (10, 6, (.object "RecipeScaler$Needs"), true) := by decide +kernel
theorem fg_X11_195 : rs_fl RX11 195 = some (2, 1, (.object "RecipeScaler$Sums"), true) := by decide +kernel
theorem lk1_X11_199 : rs_lk 1 RX11 199 = some (yX6_fill, 2, 5) := by decide +kernel
theorem lk1_X11_203 : rs_lk 1 RX11 203 = some (yX6_uncoveredSet, 0, 5) := by decide +kernel
theorem lk1_X11_206 : rs_lk 1 RX11 206 = some (yX7_withoutPlan, 0, 6) := by decide +kernel
theorem lk1_X11_209 : rs_lk 1 RX11 209 = some (yX6_boughtGramsOf, 1, 5) := by decide +kernel
theorem lk1_X11_212 : rs_lk 1 RX11 212 = some (yX9_at, 1, 8) := by decide +kernel
theorem lk0_X11_218 : rs_lk 0 RX11 218 = some (yX0_roundedUp, 1, 12) := by decide +kernel
theorem lm_X11_222 : rs_lk 0 RX11 222 = none := by decide +kernel
theorem jm_X11_222 : rs_jm RX11 222 = some 0 := by decide +kernel
theorem lk1_X11_228 : rs_lk 1 RX11 228 = some (yX7_putIngredient, 2, 6) := by decide +kernel
theorem lk1_X11_231 : rs_lk 1 RX11 231 = some (yX6_price, 0, 5) := by decide +kernel
theorem fg_X11_234 : rs_fl RX11 234 = some (4, 2, .long, true) := by decide +kernel
theorem lk0_X11_238 : rs_lk 0 RX11 238 = some (yX0_up, 1, 12) := by decide +kernel
theorem lk0_X11_241 : rs_lk 0 RX11 241 = some (yX0_down, 1, 12) := by decide +kernel
theorem fg_X11_244 : rs_fl RX11 244 = some (4, 3, .int, true) := by decide +kernel
theorem lk1_X11_247 : rs_lk 1 RX11 247 = some (yX5_recipeSet, 0, 4) := by decide +kernel
theorem lk1_X11_250 : rs_lk 1 RX11 250 = some (yX7_recipesWithin, 1, 6) := by decide +kernel
theorem lk1_X11_253 : rs_lk 1 RX11 253 = some (yX7_ingredientsWithin, 1, 6) := by decide +kernel
theorem lk1_X11_256 : rs_lk 1 RX11 256 = some (yX5_itemAt, 1, 4) := by decide +kernel
theorem fg_X11_260 : rs_fl RX11 260 = some (1, 0, .long, true) := by decide +kernel
theorem fg_X11_263 : rs_fl RX11 263 = some (1, 1, .int, true) := by decide +kernel
theorem fg_X11_264 : rs_fl RX11 264 = some (1, 2, .int, true) := by decide +kernel
theorem lk0_X11_267 : rs_lk 0 RX11 267 = some (yX11_isPart, 1, 10) := by decide +kernel
theorem lc_X11_270 : (rs_lc RX11 270).isSome = true := by decide +kernel
theorem fg_X11_272 : rs_fl RX11 272 = some (2, 0, (.object "RecipeScaler$Sums"), true) := by decide +kernel
theorem lk0_X11_275 : rs_lk 0 RX11 275 = some (yX11_partOf, 2, 10) := by decide +kernel
theorem fg_X11_32 : rs_fl RX11 32 = some (10, 4, .int, false) := by decide +kernel
theorem lk1_X11_279 : rs_lk 1 RX11 279 = some (yX3_appliedSet, 0, 2) := by decide +kernel
theorem lk0_X11_282 : rs_lk 0 RX11 282 = some (yX11_isSet, 2, 10) := by decide +kernel
theorem fg_X11_286 : rs_fl RX11 286 = some (2, 3, (.object "RecipeScaler$Sums"), true) := by decide +kernel
theorem lk1_X11_289 : rs_lk 1 RX11 289 = some (yX1_lack, 1, 0) := by decide +kernel
theorem lk1_X11_292 : rs_lk 1 RX11 292 = some (yX1_hasPacksFor, 1, 0) := by decide +kernel
theorem lk1_X11_295 : rs_lk 1 RX11 295 = some (yX6_choose, 2, 5) := by decide +kernel
theorem lk1_X11_299 : rs_lk 1 RX11 299 = some (yX6_chosenWaste, 0, 5) := by decide +kernel
theorem lk1_X11_302 : rs_lk 1 RX11 302 = some (yX6_chosenPrice, 0, 5) := by decide +kernel
theorem lk1_X11_305 : rs_lk 1 RX11 305 = some (yX6_chosenGrams, 0, 5) := by decide +kernel
theorem lk1_X11_308 : rs_lk 1 RX11 308 = some (yX6_chosenNumber, 1, 5) := by decide +kernel
theorem lk1_X11_311 : rs_lk 1 RX11 311 = some (yX6_waste, 0, 5) := by decide +kernel
theorem lk1_X11_314 : rs_lk 1 RX11 314 = some (yX6_grams, 0, 5) := by decide +kernel
theorem lk1_X11_317 : rs_lk 1 RX11 317 = some (yX6_lackingSet, 0, 5) := by decide +kernel
theorem lk0_X11_320 : rs_lk 0 RX11 320 = some (yX0_isAbove, 2, 12) := by decide +kernel
theorem lk1_X11_324 : rs_lk 1 RX11 324 = some (yX7_planRecipe, 0, 6) := by decide +kernel
theorem fg_X11_59 : rs_fl RX11 59 = some (10, 8, (.object "RecipeScaler$PathWalk"), true) := by decide +kernel
theorem lk1_X11_327 : rs_lk 1 RX11 327 = some (yX4_search, 3, 3) := by decide +kernel
theorem lk1_X11_331 : rs_lk 1 RX11 331 = some (yX4_length, 0, 3) := by decide +kernel
theorem lk1_X11_332 : rs_lk 1 RX11 332 = some (yX4_stepAt, 1, 3) := by decide +kernel
theorem lk1_X11_335 : rs_lk 1 RX11 335 = some (yX3_findAgain, 1, 2) := by decide +kernel
theorem fg_X11_339 : rs_fl RX11 339 = some (2, 2, (.object "RecipeScaler$Sums"), true) := by decide +kernel
theorem lc_X11_342 : (rs_lc RX11 342).isSome = true := by decide +kernel
theorem lk1_X11_344 : rs_lk 1 RX11 344 = some (yX3_find, 3, 2) := by decide +kernel
theorem lk1_X11_348 : rs_lk 1 RX11 348 = some (yX11_keepReason, 1, 10) := by decide +kernel
theorem lk1_X11_351 : rs_lk 1 RX11 351 = some (yX3_yieldsOfStock, 1, 2) := by decide +kernel
theorem fg_X11_28 : rs_fl RX11 28 = some (10, 3, .int, false) := by decide +kernel
theorem fg_X11_24 : rs_fl RX11 24 = some (10, 2, (.array (.object "RecipeScaler$State")), true) := by decide +kernel
theorem lk1_X11_355 : rs_lk 1 RX11 355 = some (yX7_recipeSet, 0, 6) := by decide +kernel
theorem lk0_X11_356 : rs_lk 0 RX11 356 = some (yJ6_bitCount, 1, 12) := by decide +kernel
theorem fg_X11_21 : rs_fl RX11 21 = some (10, 1, (.object "RecipeScaler$State"), false) := by decide +kernel
theorem lk1_X11_361 : rs_lk 1 RX11 361 = some (yX7_hasPlan, 0, 6) := by decide +kernel
theorem lk1_X11_364 : rs_lk 1 RX11 364 = some (yX7_planFactor, 0, 6) := by decide +kernel
theorem lc_X11_368 : (rs_lc RX11 368).isSome = true := by decide +kernel
theorem lk1_X11_376 : rs_lk 1 RX11 376 = some (yX1_gramsOf, 1, 0) := by decide +kernel
theorem lk1_X11_379 : rs_lk 1 RX11 379 = some (yX3_replace, 1, 2) := by decide +kernel
theorem oi_X12_3 : rs_oi RX12 3 = true := by decide +kernel
theorem nk_boolean : rs_nk .boolean = some 14 := by decide +kernel
theorem fg_X12_11 : rs_fl RX12 11 = some (11, 0, (.array .int), true) := by decide +kernel
theorem fg_X12_90 : rs_fl RX12 90 = some (11, 4, .int, false) := by decide +kernel
theorem fg_X12_18 : rs_fl RX12 18 = some (11, 3, (.array .int), true) := by decide +kernel
theorem lk0_X12_93 : rs_lk 0 RX12 93 = some (yX12_in, 3, 11) := by decide +kernel
theorem fg_X12_104 : rs_fl RX12 104 = some (11, 8, .boolean, false) := by decide +kernel
theorem fg_X12_97 : rs_fl RX12 97 = some (11, 6, .long, false) := by decide +kernel
theorem lc_X12_108 : (rs_lc RX12 108).isSome = true := by decide +kernel
theorem fg_X12_101 : rs_fl RX12 101 = some (11, 7, .long, false) := by decide +kernel
theorem lk1_X12_110 : rs_lk 1 RX12 110 = some (yX12_reduce, 2, 11) := by decide +kernel
theorem fg_X12_114 : rs_fl RX12 114 = some (11, 9, .int, false) := by decide +kernel
theorem fg_X12_25 : rs_fl RX12 25 = some (11, 10, (.array .int), true) := by decide +kernel
theorem fg_X12_117 : rs_fl RX12 117 = some (11, 12, .int, false) := by decide +kernel
theorem fg_X12_120 : rs_fl RX12 120 = some (11, 11, .int, false) := by decide +kernel
theorem fg_X12_123 : rs_fl RX12 123 = some (11, 13, .boolean, false) := by decide +kernel
theorem lk1_X12_126 : rs_lk 1 RX12 126 = some (yX12_sign, 0, 11) := by decide +kernel
theorem lk1_X12_130 : rs_lk 1 RX12 130 = some (yX12_takes, 1, 11) := by decide +kernel
theorem lk1_X12_134 : rs_lk 1 RX12 134 = some (yX12_one, 2, 11) := by decide +kernel
theorem lk1_X12_138 : rs_lk 1 RX12 138 = some (yX12_number, 0, 11) := by decide +kernel
theorem fg_X12_28 : rs_fl RX12 28 = some (11, 14, (.array .int), true) := by decide +kernel
theorem lk1_X12_141 : rs_lk 1 RX12 141 = some (yX12_readAmount, 1, 11) := by decide +kernel
theorem lk1_X12_145 : rs_lk 1 RX12 145 = some (yX12_need, 1, 11) := by decide +kernel
theorem lk1_X12_148 : rs_lk 1 RX12 148 = some (yX12_readItem, 0, 11) := by decide +kernel
theorem lk1_X12_151 : rs_lk 1 RX12 151 = some (yX12_keep, 0, 11) := by decide +kernel
theorem lk0_X12_154 : rs_lk 0 RX12 154 = some (yX12_isNumber, 1, 11) := by decide +kernel
theorem lk1_X12_157 : rs_lk 1 RX12 157 = some (yX12_isThere, 1, 11) := by decide +kernel
theorem lk0_X12_160 : rs_lk 0 RX12 160 = some (yX12_isIngredient, 1, 11) := by decide +kernel
theorem lk0_X12_163 : rs_lk 0 RX12 163 = some (yX12_at, 1, 11) := by decide +kernel
theorem lm_X12_167 : rs_lk 0 RX12 167 = none := by decide +kernel
theorem jm_X12_167 : rs_jm RX12 167 = some 0 := by decide +kernel
theorem lk1_X12_172 : rs_lk 1 RX12 172 = some (yX12_setsFraction, 4, 11) := by decide +kernel
theorem ic_X12_176 : (rs_ic RX12 176).isSome = true := by decide +kernel
theorem fg_X12_177 : rs_fl RX12 177 = some (11, 21, .int, false) := by decide +kernel
theorem fg_X12_38 : rs_fl RX12 38 = some (11, 17, (.array .int), true) := by decide +kernel
theorem fg_X12_41 : rs_fl RX12 41 = some (11, 18, (.array .int), true) := by decide +kernel
theorem fg_X12_44 : rs_fl RX12 44 = some (11, 19, (.array .long), true) := by decide +kernel
theorem fg_X12_47 : rs_fl RX12 47 = some (11, 20, (.array .long), true) := by decide +kernel
theorem lk0_X12_180 : rs_lk 0 RX12 180 = some (yX12_gramsAt, 2, 11) := by decide +kernel
theorem lk1_X12_183 : rs_lk 1 RX12 183 = some (yX12_times, 2, 11) := by decide +kernel
theorem lk1_X12_186 : rs_lk 1 RX12 186 = some (yX12_set, 2, 11) := by decide +kernel
theorem lk1_X12_189 : rs_lk 1 RX12 189 = some (yX12_timesGrams, 2, 11) := by decide +kernel
theorem fg_X12_31 : rs_fl RX12 31 = some (11, 15, (.array .long), true) := by decide +kernel
theorem fg_X12_35 : rs_fl RX12 35 = some (11, 16, (.array .long), true) := by decide +kernel
theorem lk1_X12_193 : rs_lk 1 RX12 193 = some (yX12_plus, 2, 11) := by decide +kernel
theorem lk1_X12_196 : rs_lk 1 RX12 196 = some (yX12_isInHand, 1, 11) := by decide +kernel
theorem lk1_X12_199 : rs_lk 1 RX12 199 = some (yX12_takeInHand, 3, 11) := by decide +kernel
theorem lk0_X12_203 : rs_lk 0 RX12 203 = some (yX12_itemAt, 2, 11) := by decide +kernel
theorem lk1_X12_206 : rs_lk 1 RX12 206 = some (yX12_walkIngredient, 1, 11) := by decide +kernel
theorem lk1_X12_209 : rs_lk 1 RX12 209 = some (yX12_walkRecipe, 1, 11) := by decide +kernel
theorem lk1_X12_212 : rs_lk 1 RX12 212 = some (yX12_isAbove, 2, 11) := by decide +kernel
theorem fg_X12_50 : rs_fl RX12 50 = some (11, 22, (.array .boolean), true) := by decide +kernel
theorem lk1_X12_216 : rs_lk 1 RX12 216 = some (yX12_holds, 1, 11) := by decide +kernel
theorem fg_X12_54 : rs_fl RX12 54 = some (11, 23, (.array .long), true) := by decide +kernel
theorem fg_X12_57 : rs_fl RX12 57 = some (11, 24, (.array .long), true) := by decide +kernel
theorem lk1_X12_219 : rs_lk 1 RX12 219 = some (yX12_findNeed, 3, 11) := by decide +kernel
theorem fg_X12_60 : rs_fl RX12 60 = some (11, 25, (.array .long), true) := by decide +kernel
theorem fg_X12_63 : rs_fl RX12 63 = some (11, 26, (.array .long), true) := by decide +kernel
theorem lk1_X12_223 : rs_lk 1 RX12 223 = some (yX12_apply, 1, 11) := by decide +kernel
theorem fg_X12_21 : rs_fl RX12 21 = some (11, 5, .int, false) := by decide +kernel
theorem lk1_X12_226 : rs_lk 1 RX12 226 = some (yX12_isFound, 0, 11) := by decide +kernel
theorem lk1_X12_230 : rs_lk 1 RX12 230 = some (yX12_plans, 3, 11) := by decide +kernel
theorem lk1_X12_234 : rs_lk 1 RX12 234 = some (yX12_hasPlan, 0, 11) := by decide +kernel
theorem lc_X12_237 : (rs_lc RX12 237).isSome = true := by decide +kernel
theorem lk1_X12_239 : rs_lk 1 RX12 239 = some (yX12_sizeOf, 2, 11) := by decide +kernel
theorem fg_X12_66 : rs_fl RX12 66 = some (11, 27, (.array .long), true) := by decide +kernel
theorem lc_X12_242 : (rs_lc RX12 242).isSome = true := by decide +kernel
theorem lk1_X12_244 : rs_lk 1 RX12 244 = some (yX12_packs, 1, 11) := by decide +kernel
theorem lk1_X12_247 : rs_lk 1 RX12 247 = some (yX12_addPack, 2, 11) := by decide +kernel
theorem lk0_X12_250 : rs_lk 0 RX12 250 = some (yX12_gcd, 2, 11) := by decide +kernel
theorem lk1_X12_253 : rs_lk 1 RX12 253 = some (yX12_priceOf, 2, 11) := by decide +kernel
theorem fg_X12_72 : rs_fl RX12 72 = some (11, 31, (.array .long), true) := by decide +kernel
theorem lk1_X12_256 : rs_lk 1 RX12 256 = some (yX12_sumOf, 3, 11) := by decide +kernel
theorem fg_X12_69 : rs_fl RX12 69 = some (11, 30, (.array .long), true) := by decide +kernel
theorem lk1_X12_260 : rs_lk 1 RX12 260 = some (yX12_isSooner, 3, 11) := by decide +kernel
theorem lk1_X12_263 : rs_lk 1 RX12 263 = some (yX12_bestPack, 1, 11) := by decide +kernel
theorem fg_X12_266 : rs_fl RX12 266 = some (11, 28, .long, false) := by decide +kernel
theorem lk1_X12_269 : rs_lk 1 RX12 269 = some (yX12_fewest, 3, 11) := by decide +kernel
theorem lk1_X12_273 : rs_lk 1 RX12 273 = some (yX12_isBetter, 1, 11) := by decide +kernel
theorem fg_X12_75 : rs_fl RX12 75 = some (11, 32, .int, false) := by decide +kernel
theorem fg_X12_78 : rs_fl RX12 78 = some (11, 33, .int, false) := by decide +kernel
theorem fg_X12_276 : rs_fl RX12 276 = some (11, 34, .int, false) := by decide +kernel
theorem lk1_X12_279 : rs_lk 1 RX12 279 = some (yX12_layInverse, 2, 11) := by decide +kernel
theorem lk1_X12_282 : rs_lk 1 RX12 282 = some (yX12_lackOf, 1, 11) := by decide +kernel
theorem fg_X12_286 : rs_fl RX12 286 = some (11, 29, .long, false) := by decide +kernel
theorem lk1_X12_289 : rs_lk 1 RX12 289 = some (yX12_layLeast, 1, 11) := by decide +kernel
theorem lk1_X12_292 : rs_lk 1 RX12 292 = some (yX12_choose, 1, 11) := by decide +kernel
theorem lc_X12_295 : (rs_lc RX12 295).isSome = true := by decide +kernel
theorem lk1_X12_297 : rs_lk 1 RX12 297 = some (yX12_shop, 1, 11) := by decide +kernel
theorem fg_X12_81 : rs_fl RX12 81 = some (11, 40, (.array .long), true) := by decide +kernel
theorem fg_X12_309 : rs_fl RX12 309 = some (11, 38, .int, false) := by decide +kernel
theorem fg_X12_312 : rs_fl RX12 312 = some (11, 39, .int, false) := by decide +kernel
theorem fg_X12_300 : rs_fl RX12 300 = some (11, 35, .long, false) := by decide +kernel
theorem fg_X12_303 : rs_fl RX12 303 = some (11, 36, .long, false) := by decide +kernel
theorem fg_X12_306 : rs_fl RX12 306 = some (11, 37, .long, false) := by decide +kernel
theorem lk1_X12_315 : rs_lk 1 RX12 315 = some (yX12_shopAll, 0, 11) := by decide +kernel
theorem lm_X12_318 : rs_lk 0 RX12 318 = none := by decide +kernel
theorem jm_X12_318 : rs_jm RX12 318 = some 1 := by decide +kernel
theorem lk1_X12_321 : rs_lk 1 RX12 321 = some (yX12_stockAfter, 1, 11) := by decide +kernel
theorem lc_X12_324 : (rs_lc RX12 324).isSome = true := by decide +kernel
theorem lk1_X12_326 : rs_lk 1 RX12 326 = some (yX12_direct, 1, 11) := by decide +kernel
theorem lk1_X12_329 : rs_lk 1 RX12 329 = some (yX12_contained, 1, 11) := by decide +kernel
theorem lk1_X12_332 : rs_lk 1 RX12 332 = some (yX12_ingredients, 1, 11) := by decide +kernel
theorem lk1_X12_335 : rs_lk 1 RX12 335 = some (yX12_endOfPath, 1, 11) := by decide +kernel
theorem fg_X12_84 : rs_fl RX12 84 = some (11, 41, (.array .long), true) := by decide +kernel
theorem fg_X12_87 : rs_fl RX12 87 = some (11, 42, (.array .long), true) := by decide +kernel
theorem lk1_X12_338 : rs_lk 1 RX12 338 = some (yX12_nextOf, 1, 11) := by decide +kernel
theorem lk1_X12_341 : rs_lk 1 RX12 341 = some (yX12_goThrough, 1, 11) := by decide +kernel
theorem fg_X12_15 : rs_fl RX12 15 = some (11, 1, (.array .int), true) := by decide +kernel
theorem lk1_X12_347 : rs_lk 1 RX12 347 = some (yX12_recipes, 0, 11) := by decide +kernel
theorem lk0_X12_350 : rs_lk 0 RX12 350 = some (yX12_ones, 1, 11) := by decide +kernel
theorem fg_X12_344 : rs_fl RX12 344 = some (11, 2, .boolean, false) := by decide +kernel
theorem ic_J6_265 : (rs_ic RJ6 265).isSome = true := by decide +kernel
theorem ic_J6_266 : (rs_ic RJ6 266).isSome = true := by decide +kernel
theorem ic_J6_267 : (rs_ic RJ6 267).isSome = true := by decide +kernel
theorem nw_L_7 : rs_nw RL 7 = some (10, 9) := by decide +kernel
theorem lk2_L_9 : rs_lk 2 RL 9 = some (yX11_init, 0, 10) := by decide +kernel
theorem oi_L_9 : rs_oi RL 9 = false := by decide +kernel
theorem nw_L_10 : rs_nw RL 10 = some (11, 43) := by decide +kernel
theorem lk2_L_12 : rs_lk 2 RL 12 = some (yX12_init, 0, 11) := by decide +kernel
theorem oi_L_12 : rs_oi RL 12 = false := by decide +kernel
theorem lk1_L_13 : rs_lk 1 RL 13 = some (yX11_feed, 6, 10) := by decide +kernel
theorem lk1_L_17 : rs_lk 1 RL 17 = some (yX12_feed, 6, 11) := by decide +kernel
theorem lk1_L_18 : rs_lk 1 RL 18 = some (yX11_read, 0, 10) := by decide +kernel
theorem lk1_L_22 : rs_lk 1 RL 22 = some (yX12_read, 0, 11) := by decide +kernel
theorem lk1_L_23 : rs_lk 1 RL 23 = some (yX11_removeRecipe, 1, 10) := by decide +kernel
theorem lk1_L_27 : rs_lk 1 RL 27 = some (yX12_removeRecipe, 1, 11) := by decide +kernel
theorem lk1_L_28 : rs_lk 1 RL 28 = some (yX11_density, 3, 10) := by decide +kernel
theorem lk1_L_32 : rs_lk 1 RL 32 = some (yX12_density, 3, 11) := by decide +kernel
theorem lk1_L_33 : rs_lk 1 RL 33 = some (yX11_weight, 3, 10) := by decide +kernel
theorem lk1_L_36 : rs_lk 1 RL 36 = some (yX12_weight, 3, 11) := by decide +kernel
theorem lk1_L_37 : rs_lk 1 RL 37 = some (yX11_allergens, 3, 10) := by decide +kernel
theorem lk1_L_40 : rs_lk 1 RL 40 = some (yX12_allergens, 3, 11) := by decide +kernel
theorem lk1_L_41 : rs_lk 1 RL 41 = some (yX11_stock, 2, 10) := by decide +kernel
theorem lk1_L_45 : rs_lk 1 RL 45 = some (yX12_stock, 2, 11) := by decide +kernel
theorem lk1_L_46 : rs_lk 1 RL 46 = some (yX11_pack, 3, 10) := by decide +kernel
theorem lk1_L_49 : rs_lk 1 RL 49 = some (yX12_pack, 3, 11) := by decide +kernel
theorem lk1_L_50 : rs_lk 1 RL 50 = some (yX11_removePack, 1, 10) := by decide +kernel
theorem lk1_L_53 : rs_lk 1 RL 53 = some (yX12_removePack, 1, 11) := by decide +kernel
theorem lk1_L_54 : rs_lk 1 RL 54 = some (yX11_substitute, 6, 10) := by decide +kernel
theorem lk1_L_57 : rs_lk 1 RL 57 = some (yX12_substitute, 6, 11) := by decide +kernel
theorem lk1_L_58 : rs_lk 1 RL 58 = some (yX11_removeSubstitution, 1, 10) := by decide +kernel
theorem lk1_L_61 : rs_lk 1 RL 61 = some (yX12_removeSubstitution, 1, 11) := by decide +kernel
theorem lk1_L_62 : rs_lk 1 RL 62 = some (yX11_scale, 3, 10) := by decide +kernel
theorem lk1_L_65 : rs_lk 1 RL 65 = some (yX12_scale, 3, 11) := by decide +kernel
theorem lk1_L_66 : rs_lk 1 RL 66 = some (yX11_pan, 2, 10) := by decide +kernel
theorem lk1_L_69 : rs_lk 1 RL 69 = some (yX12_pan, 2, 11) := by decide +kernel
theorem lk1_L_70 : rs_lk 1 RL 70 = some (yX11_buy, 0, 10) := by decide +kernel
theorem lk1_L_73 : rs_lk 1 RL 73 = some (yX12_buy, 0, 11) := by decide +kernel
theorem lk1_L_74 : rs_lk 1 RL 74 = some (yX11_recipe, 2, 10) := by decide +kernel
theorem lk1_L_77 : rs_lk 1 RL 77 = some (yX12_recipe, 2, 11) := by decide +kernel
theorem lk1_L_78 : rs_lk 1 RL 78 = some (yX11_item, 3, 10) := by decide +kernel
theorem lk1_L_81 : rs_lk 1 RL 81 = some (yX12_item, 3, 11) := by decide +kernel
theorem lk1_L_82 : rs_lk 1 RL 82 = some (yX11_needed, 3, 10) := by decide +kernel
theorem lk1_L_86 : rs_lk 1 RL 86 = some (yX12_needed, 3, 11) := by decide +kernel
theorem lk1_L_87 : rs_lk 1 RL 87 = some (yX11_reason, 0, 10) := by decide +kernel
theorem lk1_L_90 : rs_lk 1 RL 90 = some (yX12_reason, 0, 11) := by decide +kernel
theorem lk1_L_91 : rs_lk 1 RL 91 = some (yX11_applied, 2, 10) := by decide +kernel
theorem lk1_L_95 : rs_lk 1 RL 95 = some (yX12_applied, 2, 11) := by decide +kernel
theorem lk1_L_96 : rs_lk 1 RL 96 = some (yX11_shopping, 2, 10) := by decide +kernel
theorem lk1_L_99 : rs_lk 1 RL 99 = some (yX12_shopping, 2, 11) := by decide +kernel
theorem lk1_L_100 : rs_lk 1 RL 100 = some (yX11_account, 1, 10) := by decide +kernel
theorem lk1_L_103 : rs_lk 1 RL 103 = some (yX12_account, 1, 11) := by decide +kernel
theorem lk1_L_104 : rs_lk 1 RL 104 = some (yX11_risk, 1, 10) := by decide +kernel
theorem lk1_L_107 : rs_lk 1 RL 107 = some (yX12_risk, 1, 11) := by decide +kernel
theorem lk1_L_108 : rs_lk 1 RL 108 = some (yX11_path, 2, 10) := by decide +kernel
theorem lk1_L_111 : rs_lk 1 RL 111 = some (yX12_path, 2, 11) := by decide +kernel
theorem lk1_L_112 : rs_lk 1 RL 112 = some (yX11_again, 2, 10) := by decide +kernel
theorem lk1_L_115 : rs_lk 1 RL 115 = some (yX12_again, 2, 11) := by decide +kernel
theorem lk1_L_116 : rs_lk 1 RL 116 = some (yX11_possible, 2, 10) := by decide +kernel
theorem lk1_L_119 : rs_lk 1 RL 119 = some (yX12_possible, 2, 11) := by decide +kernel
theorem lk1_L_120 : rs_lk 1 RL 120 = some (yX11_back, 0, 10) := by decide +kernel
theorem lk1_L_123 : rs_lk 1 RL 123 = some (yX12_back, 0, 11) := by decide +kernel
theorem lk1_L_124 : rs_lk 1 RL 124 = some (yX11_image, 0, 10) := by decide +kernel
theorem lk1_L_127 : rs_lk 1 RL 127 = some (yX12_image, 0, 11) := by decide +kernel
theorem lk1_L_128 : rs_lk 1 RL 128 = some (yX11_undo, 0, 10) := by decide +kernel
theorem lk1_L_131 : rs_lk 1 RL 131 = some (yX12_undo, 0, 11) := by decide +kernel
theorem lk1_L_132 : rs_lk 1 RL 132 = some (yX11_count, 1, 10) := by decide +kernel
theorem lk1_L_135 : rs_lk 1 RL 135 = some (yX12_count, 1, 11) := by decide +kernel
