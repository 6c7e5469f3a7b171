theorem gm_cw168 : gm_in 1247 (.code yX9_trim cX9_trim 2 (some .int)) = true := by decide +kernel
theorem gm_cw169 : gm_in 1263 (.code yX9_byteAt cX9_byteAt 2 (some .int)) = true := by decide +kernel
theorem gm_cw170 : gm_in 1269 (.code yX9_sortOf cX9_sortOf 1 (some .int)) = true := by decide +kernel
theorem gm_cw171 : gm_in 1266 (.code yX9_isRow cX9_isRow 1 (some .boolean)) = true := by decide +kernel
theorem gm_cw172 : gm_in 1259 (.code yX9_next cX9_next 3 none) = true := by decide +kernel
theorem gm_cw173 : gm_in 1279 (.code yX9_must cX9_must 2 none) = true := by decide +kernel
theorem gm_cw174 : gm_in 1307 (.code yX9_isSign cX9_isSign 2 (some .boolean)) = true := by decide +kernel
theorem gm_cw175 : gm_in 1311 (.code yX9_step cX9_step 2 none) = true := by decide +kernel
theorem gm_cw176 : gm_in 1273 (.code yX9_spells cX9_spells 4 (some .boolean)) = true := by decide +kernel
theorem gm_cw177 : gm_in 1303 (.code yX9_readPiece cX9_readPiece 1 none) = true := by decide +kernel
theorem gm_cw178 : gm_in 1315 (.code yX9_readLeaf cX9_readLeaf 4 none) = true := by decide +kernel
theorem gm_cw179 : gm_in 1299 (.code yX9_readTerm cX9_readTerm 2 none) = true := by decide +kernel
theorem gm_cw180 : gm_in 1295 (.code yX9_readSum cX9_readSum 2 none) = true := by decide +kernel
theorem gm_cw181 : gm_in 1291 (.code yX9_readTest cX9_readTest 2 none) = true := by decide +kernel
theorem gm_cw182 : gm_in 1287 (.code yX9_readAnd cX9_readAnd 1 none) = true := by decide +kernel
theorem gm_cw183 : gm_in 1283 (.code yX9_readOr cX9_readOr 1 none) = true := by decide +kernel
theorem gm_cw184 : gm_in 1255 (.code yX9_readAll cX9_readAll 1 none) = true := by decide +kernel
theorem gm_cw185 : gm_in 1251 (.code yX9_text cX9_text 4 (some .int)) = true := by decide +kernel
theorem gm_cw186 : gm_in 1319 (.code yX9_textTold cX9_textTold 3 (some .int)) = true := by decide +kernel
theorem gm_cw187 : gm_in 1057 (.code yX9_counting cX9_counting 4 (some .int)) = true := by decide +kernel
theorem gm_cw188 : gm_in 1323 (.code yX9_why cX9_why 3 (some .int)) = true := by decide +kernel
theorem gm_cw189 : gm_in 1064 (.code yX9_done cX9_done 3 (some .int)) = true := by decide +kernel
theorem gm_cw190 : gm_in 1061 (.code yX9_worked cX9_worked 6 (some .int)) = true := by decide +kernel
theorem gm_cw191 : gm_in 1229 (.code yX9_isSheet cX9_isSheet 1 (some .boolean)) = true := by decide +kernel
theorem gm_cw192 : gm_in 1327 (.code yX9_sheet cX9_sheet 5 (some .int)) = true := by decide +kernel
theorem gm_cw193 : gm_in 1332 (.code yX9_mark cX9_mark 4 (some .int)) = true := by decide +kernel
theorem gm_cw194 : gm_in 1339 (.code yX9_pour cX9_pour 6 (some .int)) = true := by decide +kernel
theorem gm_cw195 : gm_in 1343 (.code yX9_reads cX9_reads 4 (some .int)) = true := by decide +kernel
theorem gm_cw196 : gm_in 1347 (.code yX9_copy cX9_copy 7 (some .int)) = true := by decide +kernel
theorem gm_cw197 : gm_in 1354 (.code yX9_isSlot cX9_isSlot 1 (some .boolean)) = true := by decide +kernel
theorem gm_cw198 : gm_in 1358 (.code yX9_holds cX9_holds 4 (some .int)) = true := by decide +kernel
theorem gm_cw199 : gm_in 1351 (.code yX9_lay cX9_lay 7 (some .int)) = true := by decide +kernel
theorem gm_cw200 : gm_in 1362 (.code yX9_ask cX9_ask 4 (some .int)) = true := by decide +kernel
theorem gm_cw201 : gm_in 1366 (.code yX9_item cX9_item 4 (some .int)) = true := by decide +kernel
theorem gm_cw202 : gm_in 1370 (.code yX9_rest cX9_rest 3 (some .int)) = true := by decide +kernel
theorem gm_cw203 : gm_in 1375 (.code yX9_tell cX9_tell 2 (some .int)) = true := by decide +kernel
theorem gm_cw204 : gm_in 1379 (.code yX9_check cX9_check 8 (some .int)) = true := by decide +kernel
theorem gm_cw205 : gm_in 1383 (.code yX9_keep cX9_keep 1 (some .int)) = true := by decide +kernel
theorem gm_cw206 : gm_in 1387 (.code yX9_back cX9_back 1 (some .int)) = true := by decide +kernel
theorem gm_cw207 : gm_in 1391 (.code yX9_count cX9_count 2 (some .int)) = true := by decide +kernel
theorem gm_cw208 : gm_in 667 (.code yJ0_length_8abf5 cJ0_length_8abf5 1 (some .int)) = true := by decide +kernel
theorem gm_cw209 : gm_in 671 (.code yJ0_coder_7d493 cJ0_coder_7d493 1 (some .byte)) = true := by decide +kernel
theorem gm_cw210 : gm_in 677 (.code yJ0_charAt_5068e cJ0_charAt_5068e 2 (some .char)) = true := by decide +kernel
theorem gm_cw211 : gm_in 681 (.code yJ0_isLatin1_aae02 cJ0_isLatin1_aae02 1 (some .boolean)) = true := by decide +kernel
theorem gm_cw212 : gm_in 762 (.code yJ0_indexOf_0f7a4 cJ0_indexOf_0f7a4 2 (some .int)) = true := by decide +kernel
theorem gm_cw213 : gm_in 766 (.code yJ0_indexOf_7cf53 cJ0_indexOf_7cf53 3 (some .int)) = true := by decide +kernel
theorem gm_cw214 : gm_in 687 (.code yJ0_checkIndex_df160 cJ0_checkIndex_df160 2 none) = true := by decide +kernel
theorem gm_cw215 : gm_in 684 (.code yJ1_charAt_3b067 cJ1_charAt_3b067 2 (some .char)) = true := by decide +kernel
theorem gm_cw216 : gm_in 773 (.code yJ1_canEncode_9a6ad cJ1_canEncode_9a6ad 1 (some .boolean)) = true := by decide +kernel
theorem gm_cw217 : gm_in 770 (.code yJ1_indexOf_4cfef cJ1_indexOf_4cfef 4 (some .int)) = true := by decide +kernel
theorem gm_cw218 : gm_in 778 (.code yJ1_indexOfChar_4cfef cJ1_indexOfChar_4cfef 6 (some .int)) = true := by decide +kernel
theorem gm_cw219 : gm_in 692 (.code yJ3_checkIndex_8e157 cJ3_checkIndex_8e157 3 (some .int)) = true := by decide +kernel
theorem gm_cw220 : gm_in 384 (.code yJ9_max_7cf53 cJ9_max_7cf53 2 (some .int)) = true := by decide +kernel
theorem gm_cw221 : gm_in 404 (.code yJ9_min_7cf53 cJ9_min_7cf53 2 (some .int)) = true := by decide +kernel
theorem gm_cw222 : gm_in 616 (.code yJ9_abs_0f7a4 cJ9_abs_0f7a4 1 (some .int)) = true := by decide +kernel
