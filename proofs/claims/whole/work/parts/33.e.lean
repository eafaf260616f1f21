theorem mbl_X8_still (own : String) : MtB own yX8_still cX8_still 6 (some .long) 4 := ⟨wl_in (List.mem_of_getElem? (i := 1175) (by decide +kernel)) (by decide +kernel), wl_in (List.mem_of_getElem? (i := 114) (by decide +kernel)) (by decide +kernel), by decide, by decide, by decide +kernel⟩
theorem mt_L_205 : MtV RL 205 yX8_still cX8_still 6 (some .long) 4 := ⟨mbl_X8_still _, wl_in (List.mem_of_getElem? (i := 1172) (by decide +kernel)) (by decide +kernel), wl_in (List.mem_of_getElem? (i := 1173) (by decide +kernel)) (by decide +kernel), wl_in (List.mem_of_getElem? (i := 1174) (by decide +kernel)) (by decide +kernel)⟩
theorem mbl_X9_still (own : String) : MtB own yX9_still cX9_still 5 (some .long) 4 := ⟨wl_in (List.mem_of_getElem? (i := 1942) (by decide +kernel)) (by decide +kernel), wl_in (List.mem_of_getElem? (i := 123) (by decide +kernel)) (by decide +kernel), by decide, by decide, by decide +kernel⟩
theorem mt_L_208 : MtV RL 208 yX9_still cX9_still 5 (some .long) 4 := ⟨mbl_X9_still _, wl_in (List.mem_of_getElem? (i := 1939) (by decide +kernel)) (by decide +kernel), wl_in (List.mem_of_getElem? (i := 1940) (by decide +kernel)) (by decide +kernel), wl_in (List.mem_of_getElem? (i := 1941) (by decide +kernel)) (by decide +kernel)⟩
theorem mbl_X8_ant (own : String) : MtB own yX8_ant cX8_ant 7 (some .int) 3 := ⟨wl_in (List.mem_of_getElem? (i := 1180) (by decide +kernel)) (by decide +kernel), wl_in (List.mem_of_getElem? (i := 114) (by decide +kernel)) (by decide +kernel), by decide, by decide, by decide +kernel⟩
theorem mt_L_209 : MtV RL 209 yX8_ant cX8_ant 7 (some .int) 3 := ⟨mbl_X8_ant _, wl_in (List.mem_of_getElem? (i := 1177) (by decide +kernel)) (by decide +kernel), wl_in (List.mem_of_getElem? (i := 1178) (by decide +kernel)) (by decide +kernel), wl_in (List.mem_of_getElem? (i := 1179) (by decide +kernel)) (by decide +kernel)⟩
theorem mbl_X9_ant (own : String) : MtB own yX9_ant cX9_ant 7 (some .int) 3 := ⟨wl_in (List.mem_of_getElem? (i := 1946) (by decide +kernel)) (by decide +kernel), wl_in (List.mem_of_getElem? (i := 123) (by decide +kernel)) (by decide +kernel), by decide, by decide, by decide +kernel⟩
theorem mt_L_212 : MtV RL 212 yX9_ant cX9_ant 7 (some .int) 3 := ⟨mbl_X9_ant _, wl_in (List.mem_of_getElem? (i := 1943) (by decide +kernel)) (by decide +kernel), wl_in (List.mem_of_getElem? (i := 1944) (by decide +kernel)) (by decide +kernel), wl_in (List.mem_of_getElem? (i := 1945) (by decide +kernel)) (by decide +kernel)⟩
theorem mbl_X8_set (own : String) : MtB own yX8_set cX8_set 4 (some .int) 2 := ⟨wl_in (List.mem_of_getElem? (i := 1185) (by decide +kernel)) (by decide +kernel), wl_in (List.mem_of_getElem? (i := 114) (by decide +kernel)) (by decide +kernel), by decide, by decide, by decide +kernel⟩
theorem mt_L_213 : MtV RL 213 yX8_set cX8_set 4 (some .int) 2 := ⟨mbl_X8_set _, wl_in (List.mem_of_getElem? (i := 1182) (by decide +kernel)) (by decide +kernel), wl_in (List.mem_of_getElem? (i := 1183) (by decide +kernel)) (by decide +kernel), wl_in (List.mem_of_getElem? (i := 1184) (by decide +kernel)) (by decide +kernel)⟩
theorem mbl_X9_set (own : String) : MtB own yX9_set cX9_set 3 (some .int) 2 := ⟨wl_in (List.mem_of_getElem? (i := 1950) (by decide +kernel)) (by decide +kernel), wl_in (List.mem_of_getElem? (i := 123) (by decide +kernel)) (by decide +kernel), by decide, by decide, by decide +kernel⟩
theorem mt_L_216 : MtV RL 216 yX9_set cX9_set 3 (some .int) 2 := ⟨mbl_X9_set _, wl_in (List.mem_of_getElem? (i := 1947) (by decide +kernel)) (by decide +kernel), wl_in (List.mem_of_getElem? (i := 1948) (by decide +kernel)) (by decide +kernel), wl_in (List.mem_of_getElem? (i := 1949) (by decide +kernel)) (by decide +kernel)⟩
theorem mbl_X8_reverse (own : String) : MtB own yX8_reverse cX8_reverse 3 (some .int) 0 := ⟨wl_in (List.mem_of_getElem? (i := 1194) (by decide +kernel)) (by decide +kernel), wl_in (List.mem_of_getElem? (i := 114) (by decide +kernel)) (by decide +kernel), by decide, by decide, by decide +kernel⟩
theorem mt_L_217 : MtV RL 217 yX8_reverse cX8_reverse 3 (some .int) 0 := ⟨mbl_X8_reverse _, wl_in (List.mem_of_getElem? (i := 1191) (by decide +kernel)) (by decide +kernel), wl_in (List.mem_of_getElem? (i := 1192) (by decide +kernel)) (by decide +kernel), wl_in (List.mem_of_getElem? (i := 1193) (by decide +kernel)) (by decide +kernel)⟩
theorem mbl_X9_reverse (own : String) : MtB own yX9_reverse cX9_reverse 3 (some .int) 0 := ⟨wl_in (List.mem_of_getElem? (i := 1963) (by decide +kernel)) (by decide +kernel), wl_in (List.mem_of_getElem? (i := 123) (by decide +kernel)) (by decide +kernel), by decide, by decide, by decide +kernel⟩
theorem mt_L_220 : MtV RL 220 yX9_reverse cX9_reverse 3 (some .int) 0 := ⟨mbl_X9_reverse _, wl_in (List.mem_of_getElem? (i := 1960) (by decide +kernel)) (by decide +kernel), wl_in (List.mem_of_getElem? (i := 1961) (by decide +kernel)) (by decide +kernel), wl_in (List.mem_of_getElem? (i := 1962) (by decide +kernel)) (by decide +kernel)⟩
theorem mbl_X8_undo (own : String) : MtB own yX8_undo cX8_undo 1 (some .int) 0 := ⟨wl_in (List.mem_of_getElem? (i := 1202) (by decide +kernel)) (by decide +kernel), wl_in (List.mem_of_getElem? (i := 114) (by decide +kernel)) (by decide +kernel), by decide, by decide, by decide +kernel⟩
theorem mt_L_221 : MtV RL 221 yX8_undo cX8_undo 1 (some .int) 0 := ⟨mbl_X8_undo _, wl_in (List.mem_of_getElem? (i := 1199) (by decide +kernel)) (by decide +kernel), wl_in (List.mem_of_getElem? (i := 1200) (by decide +kernel)) (by decide +kernel), wl_in (List.mem_of_getElem? (i := 1201) (by decide +kernel)) (by decide +kernel)⟩
theorem mbl_X9_undo (own : String) : MtB own yX9_undo cX9_undo 1 (some .int) 0 := ⟨wl_in (List.mem_of_getElem? (i := 1967) (by decide +kernel)) (by decide +kernel), wl_in (List.mem_of_getElem? (i := 123) (by decide +kernel)) (by decide +kernel), by decide, by decide, by decide +kernel⟩
theorem mt_L_224 : MtV RL 224 yX9_undo cX9_undo 1 (some .int) 0 := ⟨mbl_X9_undo _, wl_in (List.mem_of_getElem? (i := 1964) (by decide +kernel)) (by decide +kernel), wl_in (List.mem_of_getElem? (i := 1965) (by decide +kernel)) (by decide +kernel), wl_in (List.mem_of_getElem? (i := 1966) (by decide +kernel)) (by decide +kernel)⟩
theorem mbl_X8_anew (own : String) : MtB own yX8_anew cX8_anew 3 (some .int) 0 := ⟨wl_in (List.mem_of_getElem? (i := 1212) (by decide +kernel)) (by decide +kernel), wl_in (List.mem_of_getElem? (i := 114) (by decide +kernel)) (by decide +kernel), by decide, by decide, by decide +kernel⟩
theorem mt_L_225 : MtV RL 225 yX8_anew cX8_anew 3 (some .int) 0 := ⟨mbl_X8_anew _, wl_in (List.mem_of_getElem? (i := 1209) (by decide +kernel)) (by decide +kernel), wl_in (List.mem_of_getElem? (i := 1210) (by decide +kernel)) (by decide +kernel), wl_in (List.mem_of_getElem? (i := 1211) (by decide +kernel)) (by decide +kernel)⟩
theorem mbl_X9_anew (own : String) : MtB own yX9_anew cX9_anew 2 (some .int) 0 := ⟨wl_in (List.mem_of_getElem? (i := 1971) (by decide +kernel)) (by decide +kernel), wl_in (List.mem_of_getElem? (i := 123) (by decide +kernel)) (by decide +kernel), by decide, by decide, by decide +kernel⟩
theorem mt_L_228 : MtV RL 228 yX9_anew cX9_anew 2 (some .int) 0 := ⟨mbl_X9_anew _, wl_in (List.mem_of_getElem? (i := 1968) (by decide +kernel)) (by decide +kernel), wl_in (List.mem_of_getElem? (i := 1969) (by decide +kernel)) (by decide +kernel), wl_in (List.mem_of_getElem? (i := 1970) (by decide +kernel)) (by decide +kernel)⟩
theorem mbl_X8_drawn (own : String) : MtB own yX8_drawn cX8_drawn 2 (some .int) 1 := ⟨wl_in (List.mem_of_getElem? (i := 1216) (by decide +kernel)) (by decide +kernel), wl_in (List.mem_of_getElem? (i := 114) (by decide +kernel)) (by decide +kernel), by decide, by decide, by decide +kernel⟩
theorem mt_L_229 : MtV RL 229 yX8_drawn cX8_drawn 2 (some .int) 1 := ⟨mbl_X8_drawn _, wl_in (List.mem_of_getElem? (i := 1213) (by decide +kernel)) (by decide +kernel), wl_in (List.mem_of_getElem? (i := 1214) (by decide +kernel)) (by decide +kernel), wl_in (List.mem_of_getElem? (i := 1215) (by decide +kernel)) (by decide +kernel)⟩
theorem mbl_X9_drawn (own : String) : MtB own yX9_drawn cX9_drawn 2 (some .int) 1 := ⟨wl_in (List.mem_of_getElem? (i := 1975) (by decide +kernel)) (by decide +kernel), wl_in (List.mem_of_getElem? (i := 123) (by decide +kernel)) (by decide +kernel), by decide, by decide, by decide +kernel⟩
theorem mt_L_232 : MtV RL 232 yX9_drawn cX9_drawn 2 (some .int) 1 := ⟨mbl_X9_drawn _, wl_in (List.mem_of_getElem? (i := 1972) (by decide +kernel)) (by decide +kernel), wl_in (List.mem_of_getElem? (i := 1973) (by decide +kernel)) (by decide +kernel), wl_in (List.mem_of_getElem? (i := 1974) (by decide +kernel)) (by decide +kernel)⟩
theorem mbl_X8_luck (own : String) : MtB own yX8_luck cX8_luck 7 (some .int) 4 := ⟨wl_in (List.mem_of_getElem? (i := 1232) (by decide +kernel)) (by decide +kernel), wl_in (List.mem_of_getElem? (i := 114) (by decide +kernel)) (by decide +kernel), by decide, by decide, by decide +kernel⟩
theorem mt_L_233 : MtV RL 233 yX8_luck cX8_luck 7 (some .int) 4 := ⟨mbl_X8_luck _, wl_in (List.mem_of_getElem? (i := 1229) (by decide +kernel)) (by decide +kernel), wl_in (List.mem_of_getElem? (i := 1230) (by decide +kernel)) (by decide +kernel), wl_in (List.mem_of_getElem? (i := 1231) (by decide +kernel)) (by decide +kernel)⟩
theorem mbl_X9_luck (own : String) : MtB own yX9_luck cX9_luck 9 (some .int) 4 := ⟨wl_in (List.mem_of_getElem? (i := 1992) (by decide +kernel)) (by decide +kernel), wl_in (List.mem_of_getElem? (i := 123) (by decide +kernel)) (by decide +kernel), by decide, by decide, by decide +kernel⟩
theorem mt_L_237 : MtV RL 237 yX9_luck cX9_luck 9 (some .int) 4 := ⟨mbl_X9_luck _, wl_in (List.mem_of_getElem? (i := 1989) (by decide +kernel)) (by decide +kernel), wl_in (List.mem_of_getElem? (i := 1990) (by decide +kernel)) (by decide +kernel), wl_in (List.mem_of_getElem? (i := 1991) (by decide +kernel)) (by decide +kernel)⟩
theorem mbl_X8_grow (own : String) : MtB own yX8_grow cX8_grow 4 (some .int) 2 := ⟨wl_in (List.mem_of_getElem? (i := 1237) (by decide +kernel)) (by decide +kernel), wl_in (List.mem_of_getElem? (i := 114) (by decide +kernel)) (by decide +kernel), by decide, by decide, by decide +kernel⟩
theorem mt_L_238 : MtV RL 238 yX8_grow cX8_grow 4 (some .int) 2 := ⟨mbl_X8_grow _, wl_in (List.mem_of_getElem? (i := 1234) (by decide +kernel)) (by decide +kernel), wl_in (List.mem_of_getElem? (i := 1235) (by decide +kernel)) (by decide +kernel), wl_in (List.mem_of_getElem? (i := 1236) (by decide +kernel)) (by decide +kernel)⟩
theorem mbl_X9_grow (own : String) : MtB own yX9_grow cX9_grow 4 (some .int) 2 := ⟨wl_in (List.mem_of_getElem? (i := 1997) (by decide +kernel)) (by decide +kernel), wl_in (List.mem_of_getElem? (i := 123) (by decide +kernel)) (by decide +kernel), by decide, by decide, by decide +kernel⟩
theorem mt_L_241 : MtV RL 241 yX9_grow cX9_grow 4 (some .int) 2 := ⟨mbl_X9_grow _, wl_in (List.mem_of_getElem? (i := 1994) (by decide +kernel)) (by decide +kernel), wl_in (List.mem_of_getElem? (i := 1995) (by decide +kernel)) (by decide +kernel), wl_in (List.mem_of_getElem? (i := 1996) (by decide +kernel)) (by decide +kernel)⟩
theorem mbl_X8_count (own : String) : MtB own yX8_count cX8_count 2 (some .int) 1 := ⟨wl_in (List.mem_of_getElem? (i := 1241) (by decide +kernel)) (by decide +kernel), wl_in (List.mem_of_getElem? (i := 114) (by decide +kernel)) (by decide +kernel), by decide, by decide, by decide +kernel⟩
theorem mt_L_242 : MtV RL 242 yX8_count cX8_count 2 (some .int) 1 := ⟨mbl_X8_count _, wl_in (List.mem_of_getElem? (i := 1238) (by decide +kernel)) (by decide +kernel), wl_in (List.mem_of_getElem? (i := 1239) (by decide +kernel)) (by decide +kernel), wl_in (List.mem_of_getElem? (i := 1240) (by decide +kernel)) (by decide +kernel)⟩
theorem mbl_X9_count (own : String) : MtB own yX9_count cX9_count 4 (some .int) 1 := ⟨wl_in (List.mem_of_getElem? (i := 2001) (by decide +kernel)) (by decide +kernel), wl_in (List.mem_of_getElem? (i := 123) (by decide +kernel)) (by decide +kernel), by decide, by decide, by decide +kernel⟩
theorem mt_L_245 : MtV RL 245 yX9_count cX9_count 4 (some .int) 1 := ⟨mbl_X9_count _, wl_in (List.mem_of_getElem? (i := 1998) (by decide +kernel)) (by decide +kernel), wl_in (List.mem_of_getElem? (i := 1999) (by decide +kernel)) (by decide +kernel), wl_in (List.mem_of_getElem? (i := 2000) (by decide +kernel)) (by decide +kernel)⟩
theorem mbl_X8_image (own : String) : MtB own yX8_image cX8_image 2 (some .int) 1 := ⟨wl_in (List.mem_of_getElem? (i := 1254) (by decide +kernel)) (by decide +kernel), wl_in (List.mem_of_getElem? (i := 114) (by decide +kernel)) (by decide +kernel), by decide, by decide, by decide +kernel⟩
theorem mt_L_246 : MtV RL 246 yX8_image cX8_image 2 (some .int) 1 := ⟨mbl_X8_image _, wl_in (List.mem_of_getElem? (i := 1251) (by decide +kernel)) (by decide +kernel), wl_in (List.mem_of_getElem? (i := 1252) (by decide +kernel)) (by decide +kernel), wl_in (List.mem_of_getElem? (i := 1253) (by decide +kernel)) (by decide +kernel)⟩
theorem mbl_X9_image (own : String) : MtB own yX9_image cX9_image 2 (some .int) 1 := ⟨wl_in (List.mem_of_getElem? (i := 2005) (by decide +kernel)) (by decide +kernel), wl_in (List.mem_of_getElem? (i := 123) (by decide +kernel)) (by decide +kernel), by decide, by decide, by decide +kernel⟩
theorem mt_L_249 : MtV RL 249 yX9_image cX9_image 2 (some .int) 1 := ⟨mbl_X9_image _, wl_in (List.mem_of_getElem? (i := 2002) (by decide +kernel)) (by decide +kernel), wl_in (List.mem_of_getElem? (i := 2003) (by decide +kernel)) (by decide +kernel), wl_in (List.mem_of_getElem? (i := 2004) (by decide +kernel)) (by decide +kernel)⟩
theorem mbl_X8_back_ (own : String) : MtB own yX8_back_ cX8_back_ 2 (some .int) 1 := ⟨wl_in (List.mem_of_getElem? (i := 1258) (by decide +kernel)) (by decide +kernel), wl_in (List.mem_of_getElem? (i := 114) (by decide +kernel)) (by decide +kernel), by decide, by decide, by decide +kernel⟩
theorem mt_L_250 : MtV RL 250 yX8_back_ cX8_back_ 2 (some .int) 1 := ⟨mbl_X8_back_ _, wl_in (List.mem_of_getElem? (i := 1255) (by decide +kernel)) (by decide +kernel), wl_in (List.mem_of_getElem? (i := 1256) (by decide +kernel)) (by decide +kernel), wl_in (List.mem_of_getElem? (i := 1257) (by decide +kernel)) (by decide +kernel)⟩
theorem mbl_X9_back_ (own : String) : MtB own yX9_back_ cX9_back_ 2 (some .int) 1 := ⟨wl_in (List.mem_of_getElem? (i := 2009) (by decide +kernel)) (by decide +kernel), wl_in (List.mem_of_getElem? (i := 123) (by decide +kernel)) (by decide +kernel), by decide, by decide, by decide +kernel⟩
theorem mt_L_252 : MtV RL 252 yX9_back_ cX9_back_ 2 (some .int) 1 := ⟨mbl_X9_back_ _, wl_in (List.mem_of_getElem? (i := 2006) (by decide +kernel)) (by decide +kernel), wl_in (List.mem_of_getElem? (i := 2007) (by decide +kernel)) (by decide +kernel), wl_in (List.mem_of_getElem? (i := 2008) (by decide +kernel)) (by decide +kernel)⟩
theorem mbl_X8_row (own : String) : MtB own yX8_row cX8_row 4 (some .int) 3 := ⟨wl_in (List.mem_of_getElem? (i := 1262) (by decide +kernel)) (by decide +kernel), wl_in (List.mem_of_getElem? (i := 114) (by decide +kernel)) (by decide +kernel), by decide, by decide, by decide +kernel⟩
theorem mt_L_253 : MtV RL 253 yX8_row cX8_row 4 (some .int) 3 := ⟨mbl_X8_row _, wl_in (List.mem_of_getElem? (i := 1259) (by decide +kernel)) (by decide +kernel), wl_in (List.mem_of_getElem? (i := 1260) (by decide +kernel)) (by decide +kernel), wl_in (List.mem_of_getElem? (i := 1261) (by decide +kernel)) (by decide +kernel)⟩
theorem mbl_X9_row (own : String) : MtB own yX9_row cX9_row 5 (some .int) 3 := ⟨wl_in (List.mem_of_getElem? (i := 1425) (by decide +kernel)) (by decide +kernel), wl_in (List.mem_of_getElem? (i := 123) (by decide +kernel)) (by decide +kernel), by decide, by decide, by decide +kernel⟩
theorem mt_L_256 : MtV RL 256 yX9_row cX9_row 5 (some .int) 3 := ⟨mbl_X9_row _, wl_in (List.mem_of_getElem? (i := 1422) (by decide +kernel)) (by decide +kernel), wl_in (List.mem_of_getElem? (i := 1423) (by decide +kernel)) (by decide +kernel), wl_in (List.mem_of_getElem? (i := 1424) (by decide +kernel)) (by decide +kernel)⟩
theorem mbl_X8_write (own : String) : MtB own yX8_write cX8_write 6 (some .int) 3 := ⟨wl_in (List.mem_of_getElem? (i := 1273) (by decide +kernel)) (by decide +kernel), wl_in (List.mem_of_getElem? (i := 114) (by decide +kernel)) (by decide +kernel), by decide, by decide, by decide +kernel⟩
theorem mt_L_259 : MtV RL 259 yX8_write cX8_write 6 (some .int) 3 := ⟨mbl_X8_write _, wl_in (List.mem_of_getElem? (i := 1270) (by decide +kernel)) (by decide +kernel), wl_in (List.mem_of_getElem? (i := 1271) (by decide +kernel)) (by decide +kernel), wl_in (List.mem_of_getElem? (i := 1272) (by decide +kernel)) (by decide +kernel)⟩
theorem mbl_X9_write (own : String) : MtB own yX9_write cX9_write 5 (some .int) 3 := ⟨wl_in (List.mem_of_getElem? (i := 1436) (by decide +kernel)) (by decide +kernel), wl_in (List.mem_of_getElem? (i := 123) (by decide +kernel)) (by decide +kernel), by decide, by decide, by decide +kernel⟩
theorem mt_L_263 : MtV RL 263 yX9_write cX9_write 5 (some .int) 3 := ⟨mbl_X9_write _, wl_in (List.mem_of_getElem? (i := 1433) (by decide +kernel)) (by decide +kernel), wl_in (List.mem_of_getElem? (i := 1434) (by decide +kernel)) (by decide +kernel), wl_in (List.mem_of_getElem? (i := 1435) (by decide +kernel)) (by decide +kernel)⟩
theorem mbl_X8_paste (own : String) : MtB own yX8_paste cX8_paste 8 (some .int) 5 := ⟨wl_in (List.mem_of_getElem? (i := 1281) (by decide +kernel)) (by decide +kernel), wl_in (List.mem_of_getElem? (i := 114) (by decide +kernel)) (by decide +kernel), by decide, by decide, by decide +kernel⟩
theorem mt_L_264 : MtV RL 264 yX8_paste cX8_paste 8 (some .int) 5 := ⟨mbl_X8_paste _, wl_in (List.mem_of_getElem? (i := 1278) (by decide +kernel)) (by decide +kernel), wl_in (List.mem_of_getElem? (i := 1279) (by decide +kernel)) (by decide +kernel), wl_in (List.mem_of_getElem? (i := 1280) (by decide +kernel)) (by decide +kernel)⟩
theorem mbl_X9_paste (own : String) : MtB own yX9_paste cX9_paste 7 (some .int) 5 := ⟨wl_in (List.mem_of_getElem? (i := 1443) (by decide +kernel)) (by decide +kernel), wl_in (List.mem_of_getElem? (i := 123) (by decide +kernel)) (by decide +kernel), by decide, by decide, by decide +kernel⟩
theorem mt_L_267 : MtV RL 267 yX9_paste cX9_paste 7 (some .int) 5 := ⟨mbl_X9_paste _, wl_in (List.mem_of_getElem? (i := 1440) (by decide +kernel)) (by decide +kernel), wl_in (List.mem_of_getElem? (i := 1441) (by decide +kernel)) (by decide +kernel), wl_in (List.mem_of_getElem? (i := 1442) (by decide +kernel)) (by decide +kernel)⟩
theorem case_46 {E : EE} {b Ln : Nat} {xs : Nat → Int32} {x y : Nat → Nat} {i : Int} {ws : va_W} (C : Cx E cL_law RL room_1) (S : Scr E b Ln xs) (hi : 0 ≤ i ∧ i + 6 ≤ (Ln : Int)) (hI : Inv (eCy E) x y ws) (next : ∀ w, Inv (eCy E) x y w → GG E 121 14405 w [some (.ref b), some (.ref (x 0)), some (.ref (y 0)), some (.int (wI i))] 2330 []) : GG E 121 14405 ws [some (.ref b), some (.ref (x 0)), some (.ref (y 0)), some (.int (wI i))] 1804 [] := by
  obtain ⟨ci, cf, cg, rfl, R1, R2, R3, R4, R5⟩ := hI
  refine g_aload_n 1 C dL_law_1804 rfl rfl ?_
  refine g_aload_n 0 C dL_law_1805 rfl rfl ?_
  refine g_iload_n 3 C dL_law_1806 rfl rfl ?_
  refine g_iconst C dL_law_1807 ?_
  refine g_iadd C dL_law_1808 ?_
  refine g_sld C S (by omega) dL_law_1809 ?_
  refine g_aload_n 0 C dL_law_1810 rfl rfl ?_
  refine g_iload_n 3 C dL_law_1811 rfl rfl ?_
  refine g_iconst C dL_law_1812 ?_
  refine g_iadd C dL_law_1813 ?_
  refine g_sld C S (by omega) dL_law_1814 ?_
  refine g_aload_n 0 C dL_law_1815 rfl rfl ?_
  refine g_iload_n 3 C dL_law_1816 rfl rfl ?_
  refine g_iconst C dL_law_1817 ?_
  refine g_iadd C dL_law_1818 ?_
  refine g_sld C S (by omega) dL_law_1819 ?_
  refine g_aload_n 0 C dL_law_1820 rfl rfl ?_
  refine g_iload_n 3 C dL_law_1821 rfl rfl ?_
  refine g_iconst C dL_law_1822 ?_
  refine g_iadd C dL_law_1823 ?_
  refine g_sld C S (by omega) dL_law_1824 ?_
  obtain ⟨v, w, e8, e9, hvw⟩ : Eq1 (m_X8_still 100000 (xv xs (i + 1)) (xv xs (i + 2)) (xv xs (i + 3)) (xv xs (i + 4)) (ci 33) (ci 34)) (m_X9_still 100000 (xv xs (i + 1)) (xv xs (i + 2)) (xv xs (i + 3)) (xv xs (i + 4)) (ci 68) (ci 69)) := op_still (by decide) (xv_in _ _) (xv_in _ _) (xv_in _ _) (xv_in _ _) _ _ _ _
  refine g_setJ (q0 := 0) (As := [.int (wI (xv xs (i + 1))), .int (wI (xv xs (i + 2))), .int (wI (xv xs (i + 3))), .int (wI (xv xs (i + 4)))]) (ws2 := WW (eCy E) x y (upN (upN ci 33 (v.2.1)) 34 (v.2.2)) cf cg) (r := (wJ (v.1))) [0, 19] [some 0, none, none, none, none, none, none, none, none, none, none, none, none, none, none, none, none, none, none, some 1, none, none, none, none, none, none, none, none, none, none, none, none, none, none, none, none, none, none, none, none, none, none, none, none, none, none, none, none, none, none, none, none, none, none, none, none, none, none, none, none, none, none, none, none, none, none, none, none, none, none, none, none, none, none, none, none, none, none, none, none, none, none, none, none, none, none, none, none, none, none, none, none, none, none, none, none, none, none, none, none, none, none, none, none, none, none, none, none, none, none, none, none, none, none, none, none, none, none, none, none, none] C mt_L_205 (c_X8_still _ _ _ _ (x 0) (x 19) (.int (wI (ci 0))) (.int (wI (ci 1))) (.int (wI (ci 2))) (.ref (x 3)) (.ref (x 80)) (.ref (x 79)) (.ref (x 29)) (.ref (x 1)) (.ref (x 17)) (.ref (x 23)) (.ref (x 42)) (.ref (x 45)) (.ref (x 22)) (xv xs (i + 1)) (xv xs (i + 2)) (xv xs (i + 3)) (xv xs (i + 4)) (ci 33) (ci 34) 100000 e8) rfl rfl rfl rfl (by decide +kernel) rfl rfl rfl rfl rfl dL_law_1825 ?_
  refine g_aload_n 2 C dL_law_1828 rfl rfl ?_
  refine g_aload_n 0 C dL_law_1829 rfl rfl ?_
  refine g_iload_n 3 C dL_law_1830 rfl rfl ?_
  refine g_iconst C dL_law_1831 ?_
  refine g_iadd C dL_law_1832 ?_
  refine g_sld C S (by omega) dL_law_1833 ?_
  refine g_aload_n 0 C dL_law_1834 rfl rfl ?_
  refine g_iload_n 3 C dL_law_1835 rfl rfl ?_
  refine g_iconst C dL_law_1836 ?_
  refine g_iadd C dL_law_1837 ?_
  refine g_sld C S (by omega) dL_law_1838 ?_
  refine g_aload_n 0 C dL_law_1839 rfl rfl ?_
  refine g_iload_n 3 C dL_law_1840 rfl rfl ?_
  refine g_iconst C dL_law_1841 ?_
  refine g_iadd C dL_law_1842 ?_
  refine g_sld C S (by omega) dL_law_1843 ?_
  refine g_aload_n 0 C dL_law_1844 rfl rfl ?_
  refine g_iload_n 3 C dL_law_1845 rfl rfl ?_
  refine g_iconst C dL_law_1846 ?_
  refine g_iadd C dL_law_1847 ?_
  refine g_sld C S (by omega) dL_law_1848 ?_
  refine g_setJ (q0 := 0) (As := [.int (wI (xv xs (i + 1))), .int (wI (xv xs (i + 2))), .int (wI (xv xs (i + 3))), .int (wI (xv xs (i + 4)))]) (ws2 := WW (eCy E) x y (upN (upN (upN (upN (upN ci 33 (v.2.1)) 34 (v.2.2)) 60 (w.2.1)) 68 (w.2.2.1)) 69 (w.2.2.2)) cf cg) (r := (wJ (w.1))) [102] [none, none, none, none, none, none, none, none, none, none, none, none, none, none, none, none, none, none, none, none, none, none, none, none, none, none, none, none, none, none, none, none, none, none, none, none, none, none, none, none, none, none, none, none, none, none, none, none, none, none, none, none, none, none, none, none, none, none, none, none, none, none, none, none, none, none, none, none, none, none, none, none, none, none, none, none, none, none, none, none, none, none, none, none, none, none, none, none, none, none, none, none, none, none, none, none, none, none, none, none, none, none, some 0, none, none, none, none, none, none, none, none, none, none, none, none, none, none, none, none, none, none] C mt_L_208 (c_X9_still _ _ _ _ (y 0) (.ref (y 11)) (.ref (y 10)) (.ref (y 9)) (.ref (y 18)) (.ref (y 1)) (.int (wI (ci 0))) (.int (wI (ci 61))) (.int (wI (ci 62))) (.int (wI (ci 63))) (.int (wI (ci 64))) (.long (wJ (ci 65))) (.int (wI (ci 66))) (.int (wI (ci 67))) (.int (wI (ci 1))) (.int (wI (ci 2))) (.ref (y 5)) (.ref (y 4)) (.ref (y 7)) (.ref (y 6)) (.ref (y 3)) (.ref (y 2)) (.ref (y 17)) (.ref (y 8)) (.int (wI (ci 70))) (.long (wJ (ci 71))) (.long (wJ (ci 72))) (.int (wI (ci 73))) (.ref (y 12)) (.ref (y 13)) (.ref (y 14)) (.int (wI (ci 74))) (.int (wI (ci 75))) (.long (wJ (ci 76))) (.long (wJ (ci 77))) (.long (wJ (ci 78))) (.long (wJ (ci 79))) (.int (wI (ci 80))) (.ref (y 15)) (.long (wJ (ci 81))) (.ref (y 16)) (.int (wI (ci 82))) (xv xs (i + 1)) (xv xs (i + 2)) (xv xs (i + 3)) (xv xs (i + 4)) (ci 60) (ci 68) (ci 69) 100000 e9) rfl rfl rfl rfl (by decide +kernel) rfl rfl rfl rfl rfl dL_law_1849 ?_
  refine g_lcmp_eq (X := some ()) (Y := none) (v := ()) 2330 C dL_law_1852 dL_law_1853 rfl (if_pos (by rw [hvw])) (fun _ => ?_) (fun h => nomatch h)
  exact next _ ⟨_, _, _, rfl, R1, R2, R3, R4, R5⟩
theorem case_47 {E : EE} {b Ln : Nat} {xs : Nat → Int32} {x y : Nat → Nat} {i : Int} {ws : va_W} (C : Cx E cL_law RL room_1) (S : Scr E b Ln xs) (hi : 0 ≤ i ∧ i + 6 ≤ (Ln : Int)) (hI : Inv (eCy E) x y ws) (next : ∀ w, Inv (eCy E) x y w → GG E 121 14405 w [some (.ref b), some (.ref (x 0)), some (.ref (y 0)), some (.int (wI i))] 2330 []) : GG E 121 14405 ws [some (.ref b), some (.ref (x 0)), some (.ref (y 0)), some (.int (wI i))] 1858 [] := by
  obtain ⟨ci, cf, cg, rfl, R1, R2, R3, R4, R5⟩ := hI
  refine g_aload_n 1 C dL_law_1858 rfl rfl ?_
  refine g_aload_n 0 C dL_law_1859 rfl rfl ?_
  refine g_iload_n 3 C dL_law_1860 rfl rfl ?_
  refine g_iconst C dL_law_1861 ?_
  refine g_iadd C dL_law_1862 ?_
  refine g_sld C S (by omega) dL_law_1863 ?_
  refine g_aload_n 0 C dL_law_1864 rfl rfl ?_
  refine g_iload_n 3 C dL_law_1865 rfl rfl ?_
  refine g_iconst C dL_law_1866 ?_
  refine g_iadd C dL_law_1867 ?_
  refine g_sld C S (by omega) dL_law_1868 ?_
  refine g_aload_n 0 C dL_law_1869 rfl rfl ?_
  refine g_iload_n 3 C dL_law_1870 rfl rfl ?_
  refine g_iconst C dL_law_1871 ?_
  refine g_iadd C dL_law_1872 ?_
  refine g_sld C S (by omega) dL_law_1873 ?_
  obtain ⟨v, w, e8, e9, hvw⟩ : Eq0 (m_X8_ant 100000 (xv xs (i + 1)) (xv xs (i + 2)) (xv xs (i + 3))) (m_X9_ant 100000 (xv xs (i + 1)) (xv xs (i + 2)) (xv xs (i + 3))) := op_ant (by decide) (xv_in _ _) (xv_in _ _) (xv_in _ _)
  refine g_setI (q0 := 0) (As := [.int (wI (xv xs (i + 1))), .int (wI (xv xs (i + 2))), .int (wI (xv xs (i + 3)))]) (ws2 := WW (eCy E) x y ci cf cg) (r := (wI v)) [0] [some 0, none, none, none, none, none, none, none, none, none, none, none, none, none, none, none, none, none, none, none, none, none, none, none, none, none, none, none, none, none, none, none, none, none, none, none, none, none, none, none, none, none, none, none, none, none, none, none, none, none, none, none, none, none, none, none, none, none, none, none, none, none, none, none, none, none, none, none, none, none, none, none, none, none, none, none, none, none, none, none, none, none, none, none, none, none, none, none, none, none, none, none, none, none, none, none, none, none, none, none, none, none, none, none, none, none, none, none, none, none, none, none, none, none, none, none, none, none, none, none, none] C mt_L_209 (c_X8_ant _ _ _ _ (x 0) (.int (wI (ci 0))) (.int (wI (ci 1))) (.int (wI (ci 2))) (.ref (x 3)) (.ref (x 80)) (.ref (x 79)) (.ref (x 29)) (.ref (x 1)) (.ref (x 17)) (.ref (x 23)) (.ref (x 42)) (.ref (x 45)) (.ref (x 19)) (.ref (x 22)) (xv xs (i + 1)) (xv xs (i + 2)) (xv xs (i + 3)) 100000 e8) rfl rfl rfl rfl (by decide +kernel) rfl rfl rfl rfl rfl dL_law_1874 ?_
  refine g_aload_n 2 C dL_law_1877 rfl rfl ?_
  refine g_aload_n 0 C dL_law_1878 rfl rfl ?_
  refine g_iload_n 3 C dL_law_1879 rfl rfl ?_
  refine g_iconst C dL_law_1880 ?_
  refine g_iadd C dL_law_1881 ?_
  refine g_sld C S (by omega) dL_law_1882 ?_
  refine g_aload_n 0 C dL_law_1883 rfl rfl ?_
  refine g_iload_n 3 C dL_law_1884 rfl rfl ?_
  refine g_iconst C dL_law_1885 ?_
  refine g_iadd C dL_law_1886 ?_
  refine g_sld C S (by omega) dL_law_1887 ?_
  refine g_aload_n 0 C dL_law_1888 rfl rfl ?_
  refine g_iload_n 3 C dL_law_1889 rfl rfl ?_
  refine g_iconst C dL_law_1890 ?_
  refine g_iadd C dL_law_1891 ?_
  refine g_sld C S (by omega) dL_law_1892 ?_
  refine g_setI (q0 := 0) (As := [.int (wI (xv xs (i + 1))), .int (wI (xv xs (i + 2))), .int (wI (xv xs (i + 3)))]) (ws2 := WW (eCy E) x y (upN ci 60 (w.2)) cf cg) (r := (wI (w.1))) [102] [none, none, none, none, none, none, none, none, none, none, none, none, none, none, none, none, none, none, none, none, none, none, none, none, none, none, none, none, none, none, none, none, none, none, none, none, none, none, none, none, none, none, none, none, none, none, none, none, none, none, none, none, none, none, none, none, none, none, none, none, none, none, none, none, none, none, none, none, none, none, none, none, none, none, none, none, none, none, none, none, none, none, none, none, none, none, none, none, none, none, none, none, none, none, none, none, none, none, none, none, none, none, some 0, none, none, none, none, none, none, none, none, none, none, none, none, none, none, none, none, none, none] C mt_L_212 (c_X9_ant _ _ _ _ (y 0) (.ref (y 11)) (.ref (y 10)) (.ref (y 9)) (.ref (y 18)) (.ref (y 1)) (.int (wI (ci 0))) (.int (wI (ci 61))) (.int (wI (ci 62))) (.int (wI (ci 63))) (.int (wI (ci 64))) (.long (wJ (ci 65))) (.int (wI (ci 66))) (.int (wI (ci 67))) (.int (wI (ci 1))) (.int (wI (ci 2))) (.ref (y 5)) (.ref (y 4)) (.ref (y 7)) (.ref (y 6)) (.ref (y 3)) (.ref (y 2)) (.ref (y 17)) (.ref (y 8)) (.long (wJ (ci 68))) (.long (wJ (ci 69))) (.int (wI (ci 70))) (.long (wJ (ci 71))) (.long (wJ (ci 72))) (.int (wI (ci 73))) (.ref (y 12)) (.ref (y 13)) (.ref (y 14)) (.int (wI (ci 74))) (.int (wI (ci 75))) (.long (wJ (ci 76))) (.long (wJ (ci 77))) (.long (wJ (ci 78))) (.long (wJ (ci 79))) (.int (wI (ci 80))) (.ref (y 15)) (.long (wJ (ci 81))) (.ref (y 16)) (.int (wI (ci 82))) (xv xs (i + 1)) (xv xs (i + 2)) (xv xs (i + 3)) (ci 60) 100000 e9) rfl rfl rfl rfl (by decide +kernel) rfl rfl rfl rfl rfl dL_law_1893 ?_
  refine g_icmp_eq (X := some ()) (Y := none) (v := ()) 2330 C dL_law_1896 rfl (if_pos (by rw [hvw])) (fun _ => ?_) (fun h => nomatch h)
  exact next _ ⟨_, _, _, rfl, R1, R2, R3, R4, R5⟩
theorem case_48 {E : EE} {b Ln : Nat} {xs : Nat → Int32} {x y : Nat → Nat} {i : Int} {ws : va_W} (C : Cx E cL_law RL room_1) (S : Scr E b Ln xs) (hi : 0 ≤ i ∧ i + 6 ≤ (Ln : Int)) (hI : Inv (eCy E) x y ws) (next : ∀ w, Inv (eCy E) x y w → GG E 121 14405 w [some (.ref b), some (.ref (x 0)), some (.ref (y 0)), some (.int (wI i))] 2330 []) : GG E 121 14405 ws [some (.ref b), some (.ref (x 0)), some (.ref (y 0)), some (.int (wI i))] 1901 [] := by
  obtain ⟨ci, cf, cg, rfl, R1, R2, R3, R4, R5⟩ := hI
  refine g_aload_n 1 C dL_law_1901 rfl rfl ?_
  refine g_aload_n 0 C dL_law_1902 rfl rfl ?_
  refine g_iload_n 3 C dL_law_1903 rfl rfl ?_
  refine g_iconst C dL_law_1904 ?_
  refine g_iadd C dL_law_1905 ?_
  refine g_sld C S (by omega) dL_law_1906 ?_
  refine g_aload_n 0 C dL_law_1907 rfl rfl ?_
  refine g_iload_n 3 C dL_law_1908 rfl rfl ?_
  refine g_iconst C dL_law_1909 ?_
  refine g_iadd C dL_law_1910 ?_
  refine g_sld C S (by omega) dL_law_1911 ?_
  have h := op_set (F := 100000) (by decide) R1 (xv_in xs (i + 1)) (xv_in xs (i + 2)) (cf 48)
  refine h.elim (fun u0 h => ?_)
  refine h.elim (fun u1 h => ?_)
  refine h.elim (fun u2 h => ?_)
  refine h.elim (fun u3 h => ?_)
  refine h.elim (fun u4 h => ?_)
  refine h.elim (fun u5 h => ?_)
  refine h.elim (fun u6 h => ?_)
  refine h.elim (fun u7 h => ?_)
  refine h.elim (fun u8 h => ?_)
  obtain ⟨e8, e9, N1, hh, hc⟩ := h
  refine g_setI (q0 := 0) (As := [.int (wI (xv xs (i + 1))), .int (wI (xv xs (i + 2)))]) (ws2 := WW (eCy E) x y (upN ci 13 (u1)) (upN (upN (upN cf 1 (u2)) 2 (u3)) 5 (u4)) cg) (r := (wI (u0))) [0, 3, 4, 5, 8] [some 0, none, none, some 1, some 2, some 3, none, none, some 4, none, none, none, none, none, none, none, none, none, none, none, none, none, none, none, none, none, none, none, none, none, none, none, none, none, none, none, none, none, none, none, none, none, none, none, none, none, none, none, none, none, none, none, none, none, none, none, none, none, none, none, none, none, none, none, none, none, none, none, none, none, none, none, none, none, none, none, none, none, none, none, none, none, none, none, none, none, none, none, none, none, none, none, none, none, none, none, none, none, none, none, none, none, none, none, none, none, none, none, none, none, none, none, none, none, none, none, none, none, none, none, none] C mt_L_213 (c_X8_set _ _ _ _ (x 0) (x 3) (x 4) (x 5) (x 8) (.int (wI (ci 0))) (.int (wI (ci 1))) (.int (wI (ci 2))) (.ref (x 80)) (.ref (x 79)) (.ref (x 29)) (.ref (x 1)) (.ref (x 17)) (.ref (x 23)) (.ref (x 42)) (.ref (x 45)) (.ref (x 19)) (.ref (x 22)) (.int (wI (ci 3))) (.int (wI (ci 4))) (.ref (x 9)) (.int (wI (ci 6))) (.ref (x 7)) (.int (wI (ci 7))) (.ref (x 6)) (.int (wI (ci 8))) (.int (wI (ci 9))) (.int (wI (ci 10))) (.int (wI (ci 11))) (.int (wI (ci 12))) (xv xs (i + 1)) (xv xs (i + 2)) (ci 5) (ci 13) (cf 1) (cf 2) (cf 5) 100000 e8) rfl rfl rfl rfl (by decide +kernel) rfl rfl rfl rfl rfl dL_law_1912 ?_
  refine g_aload_n 2 C dL_law_1915 rfl rfl ?_
  refine g_aload_n 0 C dL_law_1916 rfl rfl ?_
  refine g_iload_n 3 C dL_law_1917 rfl rfl ?_
  refine g_iconst C dL_law_1918 ?_
  refine g_iadd C dL_law_1919 ?_
  refine g_sld C S (by omega) dL_law_1920 ?_
  refine g_aload_n 0 C dL_law_1921 rfl rfl ?_
  refine g_iload_n 3 C dL_law_1922 rfl rfl ?_
  refine g_iconst C dL_law_1923 ?_
  refine g_iadd C dL_law_1924 ?_
  refine g_sld C S (by omega) dL_law_1925 ?_
  refine g_setI (q0 := 0) (As := [.int (wI (xv xs (i + 1))), .int (wI (xv xs (i + 2)))]) (ws2 := WW (eCy E) x y (upN (upN ci 13 (u1)) 60 (u5)) (upN (upN (upN (upN (upN (upN cf 1 (u2)) 2 (u3)) 5 (u4)) 42 (u6)) 44 (u7)) 48 (u8)) cg) (r := (wI (u0))) [102, 104, 106, 109, 110] [none, none, none, none, none, none, none, none, none, none, none, none, none, none, none, none, none, none, none, none, none, none, none, none, none, none, none, none, none, none, none, none, none, none, none, none, none, none, none, none, none, none, none, none, none, none, none, none, none, none, none, none, none, none, none, none, none, none, none, none, none, none, none, none, none, none, none, none, none, none, none, none, none, none, none, none, none, none, none, none, none, none, none, none, none, none, none, none, none, none, none, none, none, none, none, none, none, none, none, none, none, none, some 0, none, some 1, none, some 2, none, none, some 3, some 4, none, none, none, none, none, none, none, none, none, none] C mt_L_216 (c_X9_set _ _ _ _ (y 0) (y 2) (y 4) (y 7) (y 8) (.ref (y 11)) (.ref (y 10)) (.ref (y 9)) (.ref (y 18)) (.ref (y 1)) (.int (wI (ci 0))) (.int (wI (ci 61))) (.int (wI (ci 62))) (.int (wI (ci 63))) (.int (wI (ci 64))) (.long (wJ (ci 65))) (.int (wI (ci 66))) (.int (wI (ci 67))) (.int (wI (ci 1))) (.int (wI (ci 2))) (.ref (y 5)) (.ref (y 6)) (.ref (y 3)) (.ref (y 17)) (.long (wJ (ci 68))) (.long (wJ (ci 69))) (.int (wI (ci 70))) (.long (wJ (ci 71))) (.long (wJ (ci 72))) (.int (wI (ci 73))) (.ref (y 12)) (.ref (y 13)) (.ref (y 14)) (.int (wI (ci 74))) (.int (wI (ci 75))) (.long (wJ (ci 76))) (.long (wJ (ci 77))) (.long (wJ (ci 78))) (.long (wJ (ci 79))) (.int (wI (ci 80))) (.ref (y 15)) (.long (wJ (ci 81))) (.ref (y 16)) (.int (wI (ci 82))) (xv xs (i + 1)) (xv xs (i + 2)) (ci 60) (cf 42) (cf 44) (cf 47) (cf 48) 100000 e9) rfl rfl rfl rfl (by decide +kernel) rfl rfl rfl rfl rfl dL_law_1926 ?_
  refine g_icmp_eq (X := some ()) (Y := none) (v := ()) 2330 C dL_law_1929 rfl (if_pos rfl) (fun _ => ?_) (fun h => nomatch h)
  exact next _ ⟨_, _, _, rfl, N1, R2, (ImgR.keep R3 (fun j hj => hh j (by omega)) (fun _ _ => rfl) hc), R4, R5⟩
theorem case_49 {E : EE} {b Ln : Nat} {xs : Nat → Int32} {x y : Nat → Nat} {i : Int} {ws : va_W} (C : Cx E cL_law RL room_1) (S : Scr E b Ln xs) (hi : 0 ≤ i ∧ i + 6 ≤ (Ln : Int)) (hI : Inv (eCy E) x y ws) (next : ∀ w, Inv (eCy E) x y w → GG E 121 14405 w [some (.ref b), some (.ref (x 0)), some (.ref (y 0)), some (.int (wI i))] 2330 []) : GG E 121 14405 ws [some (.ref b), some (.ref (x 0)), some (.ref (y 0)), some (.int (wI i))] 1934 [] := by
  obtain ⟨ci, cf, cg, rfl, R1, R2, R3, R4, R5⟩ := hI
  refine g_aload_n 1 C dL_law_1934 rfl rfl ?_
  have h := op_reverse (F := 100000) (by decide) R1 (cf 48)
  refine h.elim (fun u0 h => ?_)
  refine h.elim (fun u1 h => ?_)
  refine h.elim (fun u2 h => ?_)
  refine h.elim (fun u3 h => ?_)
  refine h.elim (fun u4 h => ?_)
  refine h.elim (fun u5 h => ?_)
  refine h.elim (fun u6 h => ?_)
  refine h.elim (fun u7 h => ?_)
  refine h.elim (fun u8 h => ?_)
  obtain ⟨e8, e9, N1, hh, hc⟩ := h
  refine g_setI (q0 := 0) (As := []) (ws2 := WW (eCy E) x y (upN ci 13 (u1)) (upN (upN (upN cf 1 (u2)) 2 (u3)) 5 (u4)) cg) (r := (wI (u0))) [0, 3, 4, 5, 8] [some 0, none, none, some 1, some 2, some 3, none, none, some 4, none, none, none, none, none, none, none, none, none, none, none, none, none, none, none, none, none, none, none, none, none, none, none, none, none, none, none, none, none, none, none, none, none, none, none, none, none, none, none, none, none, none, none, none, none, none, none, none, none, none, none, none, none, none, none, none, none, none, none, none, none, none, none, none, none, none, none, none, none, none, none, none, none, none, none, none, none, none, none, none, none, none, none, none, none, none, none, none, none, none, none, none, none, none, none, none, none, none, none, none, none, none, none, none, none, none, none, none, none, none, none, none] C mt_L_217 (c_X8_reverse _ _ _ _ (x 0) (x 3) (x 4) (x 5) (x 8) (.int (wI (ci 0))) (.int (wI (ci 1))) (.int (wI (ci 2))) (.ref (x 80)) (.ref (x 79)) (.ref (x 29)) (.ref (x 1)) (.ref (x 17)) (.ref (x 23)) (.ref (x 42)) (.ref (x 45)) (.ref (x 19)) (.ref (x 22)) (.int (wI (ci 4))) (.ref (x 9)) (.int (wI (ci 6))) (.ref (x 7)) (.int (wI (ci 7))) (.ref (x 6)) (.int (wI (ci 8))) (.int (wI (ci 9))) (.int (wI (ci 10))) (.int (wI (ci 11))) (.int (wI (ci 12))) (ci 3) (ci 5) (ci 13) (cf 1) (cf 2) (cf 5) 100000 e8) rfl rfl rfl rfl (by decide +kernel) rfl rfl rfl rfl rfl dL_law_1935 ?_
  refine g_aload_n 2 C dL_law_1938 rfl rfl ?_
  refine g_setI (q0 := 0) (As := []) (ws2 := WW (eCy E) x y (upN (upN ci 13 (u1)) 60 (u5)) (upN (upN (upN (upN (upN (upN cf 1 (u2)) 2 (u3)) 5 (u4)) 42 (u6)) 44 (u7)) 48 (u8)) cg) (r := (wI (u0))) [102, 104, 106, 107, 109, 110] [none, none, none, none, none, none, none, none, none, none, none, none, none, none, none, none, none, none, none, none, none, none, none, none, none, none, none, none, none, none, none, none, none, none, none, none, none, none, none, none, none, none, none, none, none, none, none, none, none, none, none, none, none, none, none, none, none, none, none, none, none, none, none, none, none, none, none, none, none, none, none, none, none, none, none, none, none, none, none, none, none, none, none, none, none, none, none, none, none, none, none, none, none, none, none, none, none, none, none, none, none, none, some 0, none, some 1, none, some 2, some 3, none, some 4, some 5, none, none, none, none, none, none, none, none, none, none] C mt_L_220 (c_X9_reverse _ _ _ _ (y 0) (y 2) (y 4) (y 5) (y 7) (y 8) (.ref (y 11)) (.ref (y 10)) (.ref (y 9)) (.ref (y 18)) (.ref (y 1)) (.int (wI (ci 0))) (.int (wI (ci 61))) (.int (wI (ci 62))) (.int (wI (ci 63))) (.int (wI (ci 64))) (.long (wJ (ci 65))) (.int (wI (ci 66))) (.int (wI (ci 67))) (.int (wI (ci 1))) (.int (wI (ci 2))) (.ref (y 6)) (.ref (y 3)) (.ref (y 17)) (.long (wJ (ci 68))) (.long (wJ (ci 69))) (.int (wI (ci 70))) (.long (wJ (ci 71))) (.long (wJ (ci 72))) (.int (wI (ci 73))) (.ref (y 12)) (.ref (y 13)) (.ref (y 14)) (.int (wI (ci 74))) (.int (wI (ci 75))) (.long (wJ (ci 76))) (.long (wJ (ci 77))) (.long (wJ (ci 78))) (.long (wJ (ci 79))) (.int (wI (ci 80))) (.ref (y 15)) (.long (wJ (ci 81))) (.ref (y 16)) (.int (wI (ci 82))) (ci 60) (cf 42) (cf 44) (cf 45) (cf 47) (cf 48) 100000 e9) rfl rfl rfl rfl (by decide +kernel) rfl rfl rfl rfl rfl dL_law_1939 ?_
  refine g_icmp_eq (X := some ()) (Y := none) (v := ()) 2330 C dL_law_1942 rfl (if_pos rfl) (fun _ => ?_) (fun h => nomatch h)
  exact next _ ⟨_, _, _, rfl, N1, R2, (ImgR.keep R3 (fun j hj => hh j (by omega)) (fun _ _ => rfl) hc), R4, R5⟩
theorem case_50 {E : EE} {b Ln : Nat} {xs : Nat → Int32} {x y : Nat → Nat} {i : Int} {ws : va_W} (C : Cx E cL_law RL room_1) (S : Scr E b Ln xs) (hi : 0 ≤ i ∧ i + 6 ≤ (Ln : Int)) (hI : Inv (eCy E) x y ws) (next : ∀ w, Inv (eCy E) x y w → GG E 121 14405 w [some (.ref b), some (.ref (x 0)), some (.ref (y 0)), some (.int (wI i))] 2330 []) : GG E 121 14405 ws [some (.ref b), some (.ref (x 0)), some (.ref (y 0)), some (.int (wI i))] 1947 [] := by
  obtain ⟨ci, cf, cg, rfl, R1, R2, R3, R4, R5⟩ := hI
  refine g_aload_n 1 C dL_law_1947 rfl rfl ?_
  have h := op_undo (F := 100000) (by decide) R1
  refine h.elim (fun u0 h => ?_)
  refine h.elim (fun u1 h => ?_)
  refine h.elim (fun u2 h => ?_)
  refine h.elim (fun u3 h => ?_)
  refine h.elim (fun u4 h => ?_)
  obtain ⟨e8, e9, N1, hh⟩ := h
  refine g_setI (q0 := 0) (As := []) (ws2 := WW (eCy E) x y (upN ci 13 (u1)) (upN cf 5 (u2)) cg) (r := (wI (u0))) [0, 3, 4, 5, 8] [some 0, none, none, some 1, some 2, some 3, none, none, some 4, none, none, none, none, none, none, none, none, none, none, none, none, none, none, none, none, none, none, none, none, none, none, none, none, none, none, none, none, none, none, none, none, none, none, none, none, none, none, none, none, none, none, none, none, none, none, none, none, none, none, none, none, none, none, none, none, none, none, none, none, none, none, none, none, none, none, none, none, none, none, none, none, none, none, none, none, none, none, none, none, none, none, none, none, none, none, none, none, none, none, none, none, none, none, none, none, none, none, none, none, none, none, none, none, none, none, none, none, none, none, none, none] C mt_L_221 (c_X8_undo _ _ _ _ (x 0) (x 3) (x 4) (x 5) (x 8) (.int (wI (ci 0))) (.int (wI (ci 1))) (.int (wI (ci 2))) (.ref (x 80)) (.ref (x 79)) (.ref (x 29)) (.ref (x 1)) (.ref (x 17)) (.ref (x 23)) (.ref (x 42)) (.ref (x 45)) (.ref (x 19)) (.ref (x 22)) (.int (wI (ci 4))) (.ref (x 9)) (.int (wI (ci 6))) (.ref (x 7)) (.int (wI (ci 7))) (.ref (x 6)) (.int (wI (ci 8))) (.int (wI (ci 9))) (.int (wI (ci 10))) (.int (wI (ci 11))) (.int (wI (ci 12))) (ci 3) (ci 5) (ci 13) (cf 1) (cf 2) (cf 5) 100000 e8) rfl rfl rfl rfl (by decide +kernel) rfl rfl rfl rfl rfl dL_law_1948 ?_
  refine g_aload_n 2 C dL_law_1951 rfl rfl ?_
  refine g_setI (q0 := 0) (As := []) (ws2 := WW (eCy E) x y (upN (upN ci 13 (u1)) 60 (u3)) (upN (upN cf 5 (u2)) 44 (u4)) cg) (r := (wI (u0))) [102, 106, 107] [none, none, none, none, none, none, none, none, none, none, none, none, none, none, none, none, none, none, none, none, none, none, none, none, none, none, none, none, none, none, none, none, none, none, none, none, none, none, none, none, none, none, none, none, none, none, none, none, none, none, none, none, none, none, none, none, none, none, none, none, none, none, none, none, none, none, none, none, none, none, none, none, none, none, none, none, none, none, none, none, none, none, none, none, none, none, none, none, none, none, none, none, none, none, none, none, none, none, none, none, none, none, some 0, none, none, none, some 1, some 2, none, none, none, none, none, none, none, none, none, none, none, none, none] C mt_L_224 (c_X9_undo _ _ _ _ (y 0) (y 4) (y 5) (.ref (y 11)) (.ref (y 10)) (.ref (y 9)) (.ref (y 18)) (.ref (y 1)) (.int (wI (ci 0))) (.int (wI (ci 61))) (.int (wI (ci 62))) (.int (wI (ci 63))) (.int (wI (ci 64))) (.long (wJ (ci 65))) (.int (wI (ci 66))) (.int (wI (ci 67))) (.int (wI (ci 1))) (.int (wI (ci 2))) (.ref (y 7)) (.ref (y 6)) (.ref (y 3)) (.ref (y 2)) (.ref (y 17)) (.ref (y 8)) (.long (wJ (ci 68))) (.long (wJ (ci 69))) (.int (wI (ci 70))) (.long (wJ (ci 71))) (.long (wJ (ci 72))) (.int (wI (ci 73))) (.ref (y 12)) (.ref (y 13)) (.ref (y 14)) (.int (wI (ci 74))) (.int (wI (ci 75))) (.long (wJ (ci 76))) (.long (wJ (ci 77))) (.long (wJ (ci 78))) (.long (wJ (ci 79))) (.int (wI (ci 80))) (.ref (y 15)) (.long (wJ (ci 81))) (.ref (y 16)) (.int (wI (ci 82))) (ci 60) (cf 44) (cf 45) 100000 e9) rfl rfl rfl rfl (by decide +kernel) rfl rfl rfl rfl rfl dL_law_1952 ?_
  refine g_icmp_eq (X := some ()) (Y := none) (v := ()) 2330 C dL_law_1955 rfl (if_pos rfl) (fun _ => ?_) (fun h => nomatch h)
  exact next _ ⟨_, _, _, rfl, N1, R2, (ImgR.keep R3 (fun j hj => hh j (by omega)) (fun _ _ => rfl) (fun _ _ => rfl)), R4, R5⟩
theorem case_51 {E : EE} {b Ln : Nat} {xs : Nat → Int32} {x y : Nat → Nat} {i : Int} {ws : va_W} (C : Cx E cL_law RL room_1) (S : Scr E b Ln xs) (hi : 0 ≤ i ∧ i + 6 ≤ (Ln : Int)) (hI : Inv (eCy E) x y ws) (next : ∀ w, Inv (eCy E) x y w → GG E 121 14405 w [some (.ref b), some (.ref (x 0)), some (.ref (y 0)), some (.int (wI i))] 2330 []) : GG E 121 14405 ws [some (.ref b), some (.ref (x 0)), some (.ref (y 0)), some (.int (wI i))] 1960 [] := by
  obtain ⟨ci, cf, cg, rfl, R1, R2, R3, R4, R5⟩ := hI
  refine g_aload_n 1 C dL_law_1960 rfl rfl ?_
  have h := op_anew (F := 100000) (by decide) R1
  refine h.elim (fun u0 h => ?_)
  refine h.elim (fun u1 h => ?_)
  refine h.elim (fun u2 h => ?_)
  refine h.elim (fun u3 h => ?_)
  refine h.elim (fun u4 h => ?_)
  obtain ⟨e8, e9, N1, hh⟩ := h
  refine g_setI (q0 := 0) (As := []) (ws2 := WW (eCy E) x y (upN ci 13 (u1)) (upN cf 5 (u2)) cg) (r := (wI (u0))) [0, 3, 4, 5, 8] [some 0, none, none, some 1, some 2, some 3, none, none, some 4, none, none, none, none, none, none, none, none, none, none, none, none, none, none, none, none, none, none, none, none, none, none, none, none, none, none, none, none, none, none, none, none, none, none, none, none, none, none, none, none, none, none, none, none, none, none, none, none, none, none, none, none, none, none, none, none, none, none, none, none, none, none, none, none, none, none, none, none, none, none, none, none, none, none, none, none, none, none, none, none, none, none, none, none, none, none, none, none, none, none, none, none, none, none, none, none, none, none, none, none, none, none, none, none, none, none, none, none, none, none, none, none] C mt_L_225 (c_X8_anew _ _ _ _ (x 0) (x 3) (x 4) (x 5) (x 8) (.int (wI (ci 0))) (.int (wI (ci 1))) (.int (wI (ci 2))) (.ref (x 80)) (.ref (x 79)) (.ref (x 29)) (.ref (x 1)) (.ref (x 17)) (.ref (x 23)) (.ref (x 42)) (.ref (x 45)) (.ref (x 19)) (.ref (x 22)) (.int (wI (ci 4))) (.ref (x 9)) (.int (wI (ci 6))) (.ref (x 7)) (.int (wI (ci 7))) (.ref (x 6)) (.int (wI (ci 8))) (.int (wI (ci 9))) (.int (wI (ci 10))) (.int (wI (ci 11))) (.int (wI (ci 12))) (ci 3) (ci 5) (ci 13) (cf 1) (cf 2) (cf 5) 100000 e8) rfl rfl rfl rfl (by decide +kernel) rfl rfl rfl rfl rfl dL_law_1961 ?_
  refine g_aload_n 2 C dL_law_1964 rfl rfl ?_
  refine g_setI (q0 := 0) (As := []) (ws2 := WW (eCy E) x y (upN (upN ci 13 (u1)) 60 (u3)) (upN (upN cf 5 (u2)) 44 (u4)) cg) (r := (wI (u0))) [102, 106, 107] [none, none, none, none, none, none, none, none, none, none, none, none, none, none, none, none, none, none, none, none, none, none, none, none, none, none, none, none, none, none, none, none, none, none, none, none, none, none, none, none, none, none, none, none, none, none, none, none, none, none, none, none, none, none, none, none, none, none, none, none, none, none, none, none, none, none, none, none, none, none, none, none, none, none, none, none, none, none, none, none, none, none, none, none, none, none, none, none, none, none, none, none, none, none, none, none, none, none, none, none, none, none, some 0, none, none, none, some 1, some 2, none, none, none, none, none, none, none, none, none, none, none, none, none] C mt_L_228 (c_X9_anew _ _ _ _ (y 0) (y 4) (y 5) (.ref (y 11)) (.ref (y 10)) (.ref (y 9)) (.ref (y 18)) (.ref (y 1)) (.int (wI (ci 0))) (.int (wI (ci 61))) (.int (wI (ci 62))) (.int (wI (ci 63))) (.int (wI (ci 64))) (.long (wJ (ci 65))) (.int (wI (ci 66))) (.int (wI (ci 67))) (.int (wI (ci 1))) (.int (wI (ci 2))) (.ref (y 7)) (.ref (y 6)) (.ref (y 3)) (.ref (y 2)) (.ref (y 17)) (.ref (y 8)) (.long (wJ (ci 68))) (.long (wJ (ci 69))) (.int (wI (ci 70))) (.long (wJ (ci 71))) (.long (wJ (ci 72))) (.int (wI (ci 73))) (.ref (y 12)) (.ref (y 13)) (.ref (y 14)) (.int (wI (ci 74))) (.int (wI (ci 75))) (.long (wJ (ci 76))) (.long (wJ (ci 77))) (.long (wJ (ci 78))) (.long (wJ (ci 79))) (.int (wI (ci 80))) (.ref (y 15)) (.long (wJ (ci 81))) (.ref (y 16)) (.int (wI (ci 82))) (ci 60) (cf 44) (cf 45) 100000 e9) rfl rfl rfl rfl (by decide +kernel) rfl rfl rfl rfl rfl dL_law_1965 ?_
  refine g_icmp_eq (X := some ()) (Y := none) (v := ()) 2330 C dL_law_1968 rfl (if_pos rfl) (fun _ => ?_) (fun h => nomatch h)
  exact next _ ⟨_, _, _, rfl, N1, R2, (ImgR.keep R3 (fun j hj => hh j (by omega)) (fun _ _ => rfl) (fun _ _ => rfl)), R4, R5⟩
theorem case_52 {E : EE} {b Ln : Nat} {xs : Nat → Int32} {x y : Nat → Nat} {i : Int} {ws : va_W} (C : Cx E cL_law RL room_1) (S : Scr E b Ln xs) (hi : 0 ≤ i ∧ i + 6 ≤ (Ln : Int)) (hI : Inv (eCy E) x y ws) (next : ∀ w, Inv (eCy E) x y w → GG E 121 14405 w [some (.ref b), some (.ref (x 0)), some (.ref (y 0)), some (.int (wI i))] 2330 []) : GG E 121 14405 ws [some (.ref b), some (.ref (x 0)), some (.ref (y 0)), some (.int (wI i))] 1973 [] := by
  obtain ⟨ci, cf, cg, rfl, R1, R2, R3, R4, R5⟩ := hI
  refine g_aload_n 1 C dL_law_1973 rfl rfl ?_
  refine g_aload_n 0 C dL_law_1974 rfl rfl ?_
  refine g_iload_n 3 C dL_law_1975 rfl rfl ?_
  refine g_iconst C dL_law_1976 ?_
  refine g_iadd C dL_law_1977 ?_
  refine g_sld C S (by omega) dL_law_1978 ?_
  obtain ⟨v, w, e8, e9, hvw⟩ : Eq0 (m_X8_drawn 100000 (xv xs (i + 1)) (ci 3) (ci 4) (ci 5)) (m_X9_drawn 100000 (xv xs (i + 1)) (cf 44) (cf 45)) := op_drawn (by decide) R1 (xv_in _ _)
  refine g_setI (q0 := 0) (As := [.int (wI (xv xs (i + 1)))]) (ws2 := WW (eCy E) x y ci cf cg) (r := (wI v)) [0, 3] [some 0, none, none, some 1, none, none, none, none, none, none, none, none, none, none, none, none, none, none, none, none, none, none, none, none, none, none, none, none, none, none, none, none, none, none, none, none, none, none, none, none, none, none, none, none, none, none, none, none, none, none, none, none, none, none, none, none, none, none, none, none, none, none, none, none, none, none, none, none, none, none, none, none, none, none, none, none, none, none, none, none, none, none, none, none, none, none, none, none, none, none, none, none, none, none, none, none, none, none, none, none, none, none, none, none, none, none, none, none, none, none, none, none, none, none, none, none, none, none, none, none, none] C mt_L_229 (c_X8_drawn _ _ _ _ (x 0) (x 3) (.int (wI (ci 0))) (.int (wI (ci 1))) (.int (wI (ci 2))) (.ref (x 80)) (.ref (x 79)) (.ref (x 29)) (.ref (x 1)) (.ref (x 17)) (.ref (x 23)) (.ref (x 42)) (.ref (x 45)) (.ref (x 19)) (.ref (x 22)) (.ref (x 9)) (.ref (x 8)) (.int (wI (ci 6))) (.ref (x 7)) (.int (wI (ci 7))) (.ref (x 6)) (.int (wI (ci 8))) (.int (wI (ci 9))) (.int (wI (ci 10))) (.int (wI (ci 11))) (.int (wI (ci 12))) (.int (wI (ci 13))) (.ref (x 4)) (.ref (x 5)) (xv xs (i + 1)) (ci 3) (ci 4) (ci 5) 100000 e8) rfl rfl rfl rfl (by decide +kernel) rfl rfl rfl rfl rfl dL_law_1979 ?_
  refine g_aload_n 2 C dL_law_1982 rfl rfl ?_
  refine g_aload_n 0 C dL_law_1983 rfl rfl ?_
  refine g_iload_n 3 C dL_law_1984 rfl rfl ?_
  refine g_iconst C dL_law_1985 ?_
  refine g_iadd C dL_law_1986 ?_
  refine g_sld C S (by omega) dL_law_1987 ?_
  refine g_setI (q0 := 0) (As := [.int (wI (xv xs (i + 1)))]) (ws2 := WW (eCy E) x y (upN ci 60 (w.2)) cf cg) (r := (wI (w.1))) [102, 106, 107] [none, none, none, none, none, none, none, none, none, none, none, none, none, none, none, none, none, none, none, none, none, none, none, none, none, none, none, none, none, none, none, none, none, none, none, none, none, none, none, none, none, none, none, none, none, none, none, none, none, none, none, none, none, none, none, none, none, none, none, none, none, none, none, none, none, none, none, none, none, none, none, none, none, none, none, none, none, none, none, none, none, none, none, none, none, none, none, none, none, none, none, none, none, none, none, none, none, none, none, none, none, none, some 0, none, none, none, some 1, some 2, none, none, none, none, none, none, none, none, none, none, none, none, none] C mt_L_232 (c_X9_drawn _ _ _ _ (y 0) (y 4) (y 5) (.ref (y 11)) (.ref (y 10)) (.ref (y 9)) (.ref (y 18)) (.ref (y 1)) (.int (wI (ci 0))) (.int (wI (ci 61))) (.int (wI (ci 62))) (.int (wI (ci 63))) (.int (wI (ci 64))) (.long (wJ (ci 65))) (.int (wI (ci 66))) (.int (wI (ci 67))) (.int (wI (ci 1))) (.int (wI (ci 2))) (.ref (y 7)) (.ref (y 6)) (.ref (y 3)) (.ref (y 2)) (.ref (y 17)) (.ref (y 8)) (.long (wJ (ci 68))) (.long (wJ (ci 69))) (.int (wI (ci 70))) (.long (wJ (ci 71))) (.long (wJ (ci 72))) (.int (wI (ci 73))) (.ref (y 12)) (.ref (y 13)) (.ref (y 14)) (.int (wI (ci 74))) (.int (wI (ci 75))) (.long (wJ (ci 76))) (.long (wJ (ci 77))) (.long (wJ (ci 78))) (.long (wJ (ci 79))) (.int (wI (ci 80))) (.ref (y 15)) (.long (wJ (ci 81))) (.ref (y 16)) (.int (wI (ci 82))) (xv xs (i + 1)) (ci 60) (cf 44) (cf 45) 100000 e9) rfl rfl rfl rfl (by decide +kernel) rfl rfl rfl rfl rfl dL_law_1988 ?_
  refine g_icmp_eq (X := some ()) (Y := none) (v := ()) 2330 C dL_law_1991 rfl (if_pos (by rw [hvw])) (fun _ => ?_) (fun h => nomatch h)
  exact next _ ⟨_, _, _, rfl, R1, R2, R3, R4, R5⟩
theorem case_53 {E : EE} {b Ln : Nat} {xs : Nat → Int32} {x y : Nat → Nat} {i : Int} {ws : va_W} (C : Cx E cL_law RL room_1) (S : Scr E b Ln xs) (hi : 0 ≤ i ∧ i + 6 ≤ (Ln : Int)) (hI : Inv (eCy E) x y ws) (next : ∀ w, Inv (eCy E) x y w → GG E 121 14405 w [some (.ref b), some (.ref (x 0)), some (.ref (y 0)), some (.int (wI i))] 2330 []) : GG E 121 14405 ws [some (.ref b), some (.ref (x 0)), some (.ref (y 0)), some (.int (wI i))] 1996 [] := by
  obtain ⟨ci, cf, cg, rfl, R1, R2, R3, R4, R5⟩ := hI
  refine g_aload_n 1 C dL_law_1996 rfl rfl ?_
  refine g_aload_n 0 C dL_law_1997 rfl rfl ?_
  refine g_iload_n 3 C dL_law_1998 rfl rfl ?_
  refine g_iconst C dL_law_1999 ?_
  refine g_iadd C dL_law_2000 ?_
  refine g_sld C S (by omega) dL_law_2001 ?_
  refine g_aload_n 0 C dL_law_2002 rfl rfl ?_
  refine g_iload_n 3 C dL_law_2003 rfl rfl ?_
  refine g_iconst C dL_law_2004 ?_
  refine g_iadd C dL_law_2005 ?_
  refine g_sld C S (by omega) dL_law_2006 ?_
  refine g_aload_n 0 C dL_law_2007 rfl rfl ?_
  refine g_iload_n 3 C dL_law_2008 rfl rfl ?_
  refine g_iconst C dL_law_2009 ?_
  refine g_iadd C dL_law_2010 ?_
  refine g_sld C S (by omega) dL_law_2011 ?_
  refine g_aload_n 0 C dL_law_2012 rfl rfl ?_
  refine g_iload_n 3 C dL_law_2013 rfl rfl ?_
  refine g_iconst C dL_law_2014 ?_
  refine g_iadd C dL_law_2015 ?_
  refine g_sld C S (by omega) dL_law_2016 ?_
  obtain ⟨v, w, e8, e9, hvw⟩ : Eq1 (m_X8_luck 100000 (xv xs (i + 1)) (xv xs (i + 2)) (xv xs (i + 3)) (xv xs (i + 4)) (ci 4) (ci 5) (ci 6) (cf 4) (cf 5) (cf 6) (ci 31) (ci 32)) (m_X9_luck 100000 (xv xs (i + 1)) (xv xs (i + 2)) (xv xs (i + 3)) (xv xs (i + 4)) (ci 68) (ci 69) (cf 42) (cf 44) (cf 45) (cf 46) (cf 47) (cf 48)) := op_luck (by decide) R1 R2 (xv_in _ _) (xv_in _ _) (xv_in _ _) (xv_in _ _) _ _ _ _ _
  refine g_setI (q0 := 0) (As := [.int (wI (xv xs (i + 1))), .int (wI (xv xs (i + 2))), .int (wI (xv xs (i + 3))), .int (wI (xv xs (i + 4)))]) (ws2 := WW (eCy E) x y (upN (upN ci 31 (v.2.1)) 32 (v.2.2)) cf cg) (r := (wI (v.1))) [0, 3, 7, 8, 9, 17, 18] [some 0, none, none, some 1, none, none, none, some 2, some 3, some 4, none, none, none, none, none, none, none, some 5, some 6, none, none, none, none, none, none, none, none, none, none, none, none, none, none, none, none, none, none, none, none, none, none, none, none, none, none, none, none, none, none, none, none, none, none, none, none, none, none, none, none, none, none, none, none, none, none, none, none, none, none, none, none, none, none, none, none, none, none, none, none, none, none, none, none, none, none, none, none, none, none, none, none, none, none, none, none, none, none, none, none, none, none, none, none, none, none, none, none, none, none, none, none, none, none, none, none, none, none, none, none, none, none] C mt_L_233 (c_X8_luck _ _ _ _ (x 0) (x 3) (x 7) (x 8) (x 9) (x 17) (x 18) (.int (wI (ci 0))) (.int (wI (ci 1))) (.int (wI (ci 2))) (.ref (x 80)) (.ref (x 79)) (.ref (x 29)) (.ref (x 1)) (.ref (x 23)) (.ref (x 42)) (.ref (x 45)) (.ref (x 19)) (.ref (x 22)) (.int (wI (ci 3))) (.int (wI (ci 7))) (.ref (x 6)) (.int (wI (ci 8))) (.int (wI (ci 9))) (.int (wI (ci 10))) (.int (wI (ci 11))) (.int (wI (ci 12))) (.int (wI (ci 13))) (.ref (x 4)) (.ref (x 5)) (.ref (x 21)) (.ref (x 20)) (xv xs (i + 1)) (xv xs (i + 2)) (xv xs (i + 3)) (xv xs (i + 4)) (ci 4) (ci 5) (ci 6) (cf 4) (cf 5) (cf 6) (ci 31) (ci 32) 100000 e8) rfl rfl rfl rfl (by decide +kernel) rfl rfl rfl rfl rfl dL_law_2017 ?_
  refine g_aload_n 2 C dL_law_2020 rfl rfl ?_
  refine g_aload_n 0 C dL_law_2021 rfl rfl ?_
  refine g_iload_n 3 C dL_law_2022 rfl rfl ?_
  refine g_iconst C dL_law_2023 ?_
  refine g_iadd C dL_law_2024 ?_
  refine g_sld C S (by omega) dL_law_2025 ?_
  refine g_aload_n 0 C dL_law_2026 rfl rfl ?_
  refine g_iload_n 3 C dL_law_2027 rfl rfl ?_
  refine g_iconst C dL_law_2028 ?_
  refine g_iadd C dL_law_2029 ?_
  refine g_sld C S (by omega) dL_law_2030 ?_
  refine g_aload_n 0 C dL_law_2031 rfl rfl ?_
  refine g_iload_n 3 C dL_law_2032 rfl rfl ?_
  refine g_iconst C dL_law_2033 ?_
  refine g_iadd C dL_law_2034 ?_
  refine g_sld C S (by omega) dL_law_2035 ?_
  refine g_aload_n 0 C dL_law_2036 rfl rfl ?_
  refine g_iload_n 3 C dL_law_2037 rfl rfl ?_
  refine g_iconst C dL_law_2038 ?_
  refine g_iadd C dL_law_2039 ?_
  refine g_sld C S (by omega) dL_law_2040 ?_
  refine g_setI (q0 := 0) (As := [.int (wI (xv xs (i + 1))), .int (wI (xv xs (i + 2))), .int (wI (xv xs (i + 3))), .int (wI (xv xs (i + 4)))]) (ws2 := WW (eCy E) x y (upN (upN (upN (upN (upN ci 31 (v.2.1)) 32 (v.2.2)) 60 (w.2.1)) 68 (w.2.2.1)) 69 (w.2.2.2.1)) (upN cf 48 (w.2.2.2.2)) cg) (r := (wI (w.1))) [102, 104, 106, 107, 108, 109, 110] [none, none, none, none, none, none, none, none, none, none, none, none, none, none, none, none, none, none, none, none, none, none, none, none, none, none, none, none, none, none, none, none, none, none, none, none, none, none, none, none, none, none, none, none, none, none, none, none, none, none, none, none, none, none, none, none, none, none, none, none, none, none, none, none, none, none, none, none, none, none, none, none, none, none, none, none, none, none, none, none, none, none, none, none, none, none, none, none, none, none, none, none, none, none, none, none, none, none, none, none, none, none, some 0, none, some 1, none, some 2, some 3, some 4, some 5, some 6, none, none, none, none, none, none, none, none, none, none] C mt_L_237 (c_X9_luck _ _ _ _ (y 0) (y 2) (y 4) (y 5) (y 6) (y 7) (y 8) (.ref (y 11)) (.ref (y 10)) (.ref (y 9)) (.ref (y 18)) (.ref (y 1)) (.int (wI (ci 0))) (.int (wI (ci 61))) (.int (wI (ci 62))) (.int (wI (ci 63))) (.int (wI (ci 64))) (.long (wJ (ci 65))) (.int (wI (ci 66))) (.int (wI (ci 67))) (.int (wI (ci 1))) (.int (wI (ci 2))) (.ref (y 3)) (.ref (y 17)) (.int (wI (ci 70))) (.long (wJ (ci 71))) (.long (wJ (ci 72))) (.int (wI (ci 73))) (.ref (y 12)) (.ref (y 13)) (.ref (y 14)) (.int (wI (ci 74))) (.int (wI (ci 75))) (.long (wJ (ci 76))) (.long (wJ (ci 77))) (.long (wJ (ci 78))) (.long (wJ (ci 79))) (.int (wI (ci 80))) (.ref (y 15)) (.long (wJ (ci 81))) (.ref (y 16)) (.int (wI (ci 82))) (xv xs (i + 1)) (xv xs (i + 2)) (xv xs (i + 3)) (xv xs (i + 4)) (ci 60) (ci 68) (ci 69) (cf 42) (cf 44) (cf 45) (cf 46) (cf 47) (cf 48) 100000 e9) rfl rfl rfl rfl (by decide +kernel) rfl rfl rfl rfl rfl dL_law_2041 ?_
  refine g_icmp_eq (X := some ()) (Y := none) (v := ()) 2330 C dL_law_2044 rfl (if_pos (by rw [hvw])) (fun _ => ?_) (fun h => nomatch h)
  exact next _ ⟨_, _, _, rfl, R1, R2, R3, R4, R5⟩
theorem case_54 {E : EE} {b Ln : Nat} {xs : Nat → Int32} {x y : Nat → Nat} {i : Int} {ws : va_W} (C : Cx E cL_law RL room_1) (S : Scr E b Ln xs) (hi : 0 ≤ i ∧ i + 6 ≤ (Ln : Int)) (hI : Inv (eCy E) x y ws) (next : ∀ w, Inv (eCy E) x y w → GG E 121 14405 w [some (.ref b), some (.ref (x 0)), some (.ref (y 0)), some (.int (wI i))] 2330 []) : GG E 121 14405 ws [some (.ref b), some (.ref (x 0)), some (.ref (y 0)), some (.int (wI i))] 2049 [] := by
  obtain ⟨ci, cf, cg, rfl, R1, R2, R3, R4, R5⟩ := hI
  refine g_aload_n 1 C dL_law_2049 rfl rfl ?_
  refine g_aload_n 0 C dL_law_2050 rfl rfl ?_
  refine g_iload_n 3 C dL_law_2051 rfl rfl ?_
  refine g_iconst C dL_law_2052 ?_
  refine g_iadd C dL_law_2053 ?_
  refine g_sld C S (by omega) dL_law_2054 ?_
  refine g_aload_n 0 C dL_law_2055 rfl rfl ?_
  refine g_iload_n 3 C dL_law_2056 rfl rfl ?_
  refine g_iconst C dL_law_2057 ?_
  refine g_iadd C dL_law_2058 ?_
  refine g_sld C S (by omega) dL_law_2059 ?_
  have h := op_grow (F := 100000) R1 (xv_in xs (i + 1)) (xv_in xs (i + 2))
  refine h.elim (fun u0 h => ?_)
  refine h.elim (fun u1 h => ?_)
  refine h.elim (fun u2 h => ?_)
  refine h.elim (fun u3 h => ?_)
  obtain ⟨e8, e9, N1, ha⟩ := h
  refine g_setI (q0 := 0) (As := [.int (wI (xv xs (i + 1))), .int (wI (xv xs (i + 2)))]) (ws2 := WW (eCy E) x y ci (upN cf 4 (u1)) cg) (r := (wI (u0))) [0, 3, 7] [some 0, none, none, some 1, none, none, none, some 2, none, none, none, none, none, none, none, none, none, none, none, none, none, none, none, none, none, none, none, none, none, none, none, none, none, none, none, none, none, none, none, none, none, none, none, none, none, none, none, none, none, none, none, none, none, none, none, none, none, none, none, none, none, none, none, none, none, none, none, none, none, none, none, none, none, none, none, none, none, none, none, none, none, none, none, none, none, none, none, none, none, none, none, none, none, none, none, none, none, none, none, none, none, none, none, none, none, none, none, none, none, none, none, none, none, none, none, none, none, none, none, none, none] C mt_L_238 (c_X8_grow _ _ _ _ (x 0) (x 3) (x 7) (.int (wI (ci 0))) (.int (wI (ci 1))) (.int (wI (ci 2))) (.ref (x 80)) (.ref (x 79)) (.ref (x 29)) (.ref (x 1)) (.ref (x 17)) (.ref (x 23)) (.ref (x 42)) (.ref (x 45)) (.ref (x 19)) (.ref (x 22)) (.int (wI (ci 3))) (.int (wI (ci 4))) (.int (wI (ci 5))) (.ref (x 9)) (.ref (x 8)) (.int (wI (ci 7))) (.ref (x 6)) (.int (wI (ci 8))) (.int (wI (ci 9))) (.int (wI (ci 10))) (.int (wI (ci 11))) (.int (wI (ci 12))) (.ref (x 4)) (.ref (x 5)) (xv xs (i + 1)) (xv xs (i + 2)) (ci 6) (ci 13) (cf 4) 100000 e8) rfl rfl rfl rfl (by decide +kernel) rfl rfl rfl rfl rfl dL_law_2060 ?_
  refine g_aload_n 2 C dL_law_2063 rfl rfl ?_
  refine g_aload_n 0 C dL_law_2064 rfl rfl ?_
  refine g_iload_n 3 C dL_law_2065 rfl rfl ?_
  refine g_iconst C dL_law_2066 ?_
  refine g_iadd C dL_law_2067 ?_
  refine g_sld C S (by omega) dL_law_2068 ?_
  refine g_aload_n 0 C dL_law_2069 rfl rfl ?_
  refine g_iload_n 3 C dL_law_2070 rfl rfl ?_
  refine g_iconst C dL_law_2071 ?_
  refine g_iadd C dL_law_2072 ?_
  refine g_sld C S (by omega) dL_law_2073 ?_
  refine g_setI (q0 := 0) (As := [.int (wI (xv xs (i + 1))), .int (wI (xv xs (i + 2)))]) (ws2 := WW (eCy E) x y (upN ci 60 (u2)) (upN (upN cf 4 (u1)) 46 (u3)) cg) (r := (wI (u0))) [102, 106, 108] [none, none, none, none, none, none, none, none, none, none, none, none, none, none, none, none, none, none, none, none, none, none, none, none, none, none, none, none, none, none, none, none, none, none, none, none, none, none, none, none, none, none, none, none, none, none, none, none, none, none, none, none, none, none, none, none, none, none, none, none, none, none, none, none, none, none, none, none, none, none, none, none, none, none, none, none, none, none, none, none, none, none, none, none, none, none, none, none, none, none, none, none, none, none, none, none, none, none, none, none, none, none, some 0, none, none, none, some 1, none, some 2, none, none, none, none, none, none, none, none, none, none, none, none] C mt_L_241 (c_X9_grow _ _ _ _ (y 0) (y 4) (y 6) (.ref (y 11)) (.ref (y 10)) (.ref (y 9)) (.ref (y 18)) (.ref (y 1)) (.int (wI (ci 0))) (.int (wI (ci 61))) (.int (wI (ci 62))) (.int (wI (ci 63))) (.int (wI (ci 64))) (.long (wJ (ci 65))) (.int (wI (ci 66))) (.int (wI (ci 67))) (.int (wI (ci 1))) (.int (wI (ci 2))) (.ref (y 5)) (.ref (y 7)) (.ref (y 3)) (.ref (y 2)) (.ref (y 17)) (.ref (y 8)) (.long (wJ (ci 68))) (.long (wJ (ci 69))) (.int (wI (ci 70))) (.long (wJ (ci 71))) (.long (wJ (ci 72))) (.int (wI (ci 73))) (.ref (y 12)) (.ref (y 13)) (.ref (y 14)) (.int (wI (ci 74))) (.int (wI (ci 75))) (.long (wJ (ci 76))) (.long (wJ (ci 77))) (.long (wJ (ci 78))) (.long (wJ (ci 79))) (.int (wI (ci 80))) (.ref (y 15)) (.long (wJ (ci 81))) (.ref (y 16)) (.int (wI (ci 82))) (xv xs (i + 1)) (xv xs (i + 2)) (ci 60) (cf 44) (cf 46) 100000 e9) rfl rfl rfl rfl (by decide +kernel) rfl rfl rfl rfl rfl dL_law_2074 ?_
  refine g_icmp_eq (X := some ()) (Y := none) (v := ()) 2330 C dL_law_2077 rfl (if_pos rfl) (fun _ => ?_) (fun h => nomatch h)
  exact next _ ⟨_, _, _, rfl, N1, R2, (ImgR.keep R3 (fun _ _ => rfl) ha (fun _ _ => rfl)), R4, R5⟩
theorem case_55 {E : EE} {b Ln : Nat} {xs : Nat → Int32} {x y : Nat → Nat} {i : Int} {ws : va_W} (C : Cx E cL_law RL room_1) (S : Scr E b Ln xs) (hi : 0 ≤ i ∧ i + 6 ≤ (Ln : Int)) (hI : Inv (eCy E) x y ws) (next : ∀ w, Inv (eCy E) x y w → GG E 121 14405 w [some (.ref b), some (.ref (x 0)), some (.ref (y 0)), some (.int (wI i))] 2330 []) : GG E 121 14405 ws [some (.ref b), some (.ref (x 0)), some (.ref (y 0)), some (.int (wI i))] 2082 [] := by
  obtain ⟨ci, cf, cg, rfl, R1, R2, R3, R4, R5⟩ := hI
  refine g_aload_n 1 C dL_law_2082 rfl rfl ?_
  refine g_aload_n 0 C dL_law_2083 rfl rfl ?_
  refine g_iload_n 3 C dL_law_2084 rfl rfl ?_
  refine g_iconst C dL_law_2085 ?_
  refine g_iadd C dL_law_2086 ?_
  refine g_sld C S (by omega) dL_law_2087 ?_
  obtain ⟨v, w, e8, e9, hvw⟩ : Eq0 (m_X8_count 100000 (xv xs (i + 1)) (ci 0) (ci 3) (ci 4) (ci 5) (ci 6) (ci 7) (ci 8) (ci 13) (cf 6) (cf 18)) (m_X9_count 100000 (xv xs (i + 1)) (ci 0) (cf 44) (cf 45) (cf 47) (cf 51)) := op_count (by decide) R1 R4 _ _
  refine g_setI (q0 := 0) (As := [.int (wI (xv xs (i + 1)))]) (ws2 := WW (eCy E) x y ci cf cg) (r := (wI v)) [0, 3, 9, 29, 30, 31, 32, 33] [some 0, none, none, some 1, none, none, none, none, none, some 2, none, none, none, none, none, none, none, none, none, none, none, none, none, none, none, none, none, none, none, some 3, some 4, some 5, some 6, some 7, none, none, none, none, none, none, none, none, none, none, none, none, none, none, none, none, none, none, none, none, none, none, none, none, none, none, none, none, none, none, none, none, none, none, none, none, none, none, none, none, none, none, none, none, none, none, none, none, none, none, none, none, none, none, none, none, none, none, none, none, none, none, none, none, none, none, none, none, none, none, none, none, none, none, none, none, none, none, none, none, none, none, none, none, none, none, none] C mt_L_242 (c_X8_count _ _ _ _ (x 0) (x 3) (x 9) (x 29) (x 30) (x 31) (x 32) (x 33) (.int (wI (ci 1))) (.int (wI (ci 2))) (.ref (x 80)) (.ref (x 79)) (.ref (x 1)) (.ref (x 17)) (.ref (x 23)) (.ref (x 42)) (.ref (x 45)) (.ref (x 19)) (.ref (x 22)) (.ref (x 8)) (.ref (x 7)) (.ref (x 6)) (.int (wI (ci 9))) (.int (wI (ci 10))) (.int (wI (ci 11))) (.int (wI (ci 12))) (.ref (x 4)) (.ref (x 5)) (fun j : Nat => ([.int (wI ((cf 40) 0)), .int (wI ((cf 40) 1)), .int (wI ((cf 40) 2)), .int (wI ((cf 40) 3))] : List Value).getD j .null) (fun j : Nat => ([.int (wI ((cf 19) 0)), .int (wI ((cf 19) 1)), .int (wI ((cf 19) 2)), .int (wI ((cf 19) 3))] : List Value).getD j .null) (fun j : Nat => ([.ref (x 34), .ref (x 35), .ref (x 36), .ref (x 37)] : List Value).getD j .null) (xv xs (i + 1)) (ci 0) (ci 3) (ci 4) (ci 5) (ci 6) (ci 7) (ci 8) (ci 13) (cf 6) (cf 18) 100000 e8) rfl rfl rfl rfl (by decide +kernel) rfl rfl rfl rfl rfl dL_law_2088 ?_
  refine g_aload_n 2 C dL_law_2091 rfl rfl ?_
  refine g_aload_n 0 C dL_law_2092 rfl rfl ?_
  refine g_iload_n 3 C dL_law_2093 rfl rfl ?_
  refine g_iconst C dL_law_2094 ?_
  refine g_iadd C dL_law_2095 ?_
  refine g_sld C S (by omega) dL_law_2096 ?_
  refine g_setI (q0 := 0) (As := [.int (wI (xv xs (i + 1)))]) (ws2 := WW (eCy E) x y (upN ci 60 (w.2)) cf cg) (r := (wI (w.1))) [102, 106, 107, 109, 113] [none, none, none, none, none, none, none, none, none, none, none, none, none, none, none, none, none, none, none, none, none, none, none, none, none, none, none, none, none, none, none, none, none, none, none, none, none, none, none, none, none, none, none, none, none, none, none, none, none, none, none, none, none, none, none, none, none, none, none, none, none, none, none, none, none, none, none, none, none, none, none, none, none, none, none, none, none, none, none, none, none, none, none, none, none, none, none, none, none, none, none, none, none, none, none, none, none, none, none, none, none, none, some 0, none, none, none, some 1, some 2, none, some 3, none, none, none, some 4, none, none, none, none, none, none, none] C mt_L_245 (c_X9_count _ _ _ _ (y 0) (y 4) (y 5) (y 7) (y 11) (.ref (y 10)) (.ref (y 9)) (.ref (y 18)) (.ref (y 1)) (.int (wI (ci 61))) (.int (wI (ci 62))) (.int (wI (ci 63))) (.int (wI (ci 64))) (.long (wJ (ci 65))) (.int (wI (ci 66))) (.int (wI (ci 67))) (.int (wI (ci 1))) (.int (wI (ci 2))) (.ref (y 6)) (.ref (y 3)) (.ref (y 2)) (.ref (y 17)) (.ref (y 8)) (.long (wJ (ci 68))) (.long (wJ (ci 69))) (.int (wI (ci 70))) (.long (wJ (ci 71))) (.long (wJ (ci 72))) (.int (wI (ci 73))) (.ref (y 12)) (.ref (y 13)) (.ref (y 14)) (.int (wI (ci 74))) (.int (wI (ci 75))) (.long (wJ (ci 76))) (.long (wJ (ci 77))) (.long (wJ (ci 78))) (.long (wJ (ci 79))) (.int (wI (ci 80))) (.ref (y 15)) (.long (wJ (ci 81))) (.ref (y 16)) (.int (wI (ci 82))) (xv xs (i + 1)) (ci 60) (ci 0) (cf 44) (cf 45) (cf 47) (cf 51) 100000 e9) rfl rfl rfl rfl (by decide +kernel) rfl rfl rfl rfl rfl dL_law_2097 ?_
  refine g_icmp_eq (X := some ()) (Y := none) (v := ()) 2330 C dL_law_2100 rfl (if_pos (by rw [hvw])) (fun _ => ?_) (fun h => nomatch h)
  exact next _ ⟨_, _, _, rfl, R1, R2, R3, R4, R5⟩
theorem case_56 {E : EE} {b Ln : Nat} {xs : Nat → Int32} {x y : Nat → Nat} {i : Int} {ws : va_W} (C : Cx E cL_law RL room_1) (S : Scr E b Ln xs) (hi : 0 ≤ i ∧ i + 6 ≤ (Ln : Int)) (hI : Inv (eCy E) x y ws) (next : ∀ w, Inv (eCy E) x y w → GG E 121 14405 w [some (.ref b), some (.ref (x 0)), some (.ref (y 0)), some (.int (wI i))] 2330 []) : GG E 121 14405 ws [some (.ref b), some (.ref (x 0)), some (.ref (y 0)), some (.int (wI i))] 2105 [] := by
  obtain ⟨ci, cf, cg, rfl, R1, R2, R3, R4, R5⟩ := hI
  refine g_aload_n 1 C dL_law_2105 rfl rfl ?_
  refine g_aload_n 0 C dL_law_2106 rfl rfl ?_
  refine g_iload_n 3 C dL_law_2107 rfl rfl ?_
  refine g_iconst C dL_law_2108 ?_
  refine g_iadd C dL_law_2109 ?_
  refine g_sld C S (by omega) dL_law_2110 ?_
  obtain ⟨v, w, e8, e9, hvw, N3, N1⟩ := op_image (F := 100000) (by decide) R1 R2 R3 (xv_in xs (i + 1))
  refine g_setI (q0 := 0) (As := [.int (wI (xv xs (i + 1)))]) (ws2 := WW (eCy E) x y ci (upN (upN (upN (upN (upN (upN (upN (upN (upN (upN (upN (upN cf 28 (v.2.1)) 29 (v.2.2.1)) 30 (v.2.2.2.1)) 31 (v.2.2.2.2.1)) 32 (v.2.2.2.2.2.1)) 33 (v.2.2.2.2.2.2.1)) 34 (v.2.2.2.2.2.2.2.1)) 35 (v.2.2.2.2.2.2.2.2.1)) 36 (v.2.2.2.2.2.2.2.2.2.1)) 37 (v.2.2.2.2.2.2.2.2.2.2.1)) 38 (v.2.2.2.2.2.2.2.2.2.2.2.1)) 39 (v.2.2.2.2.2.2.2.2.2.2.2.2.1)) (upN (upN (upN (upN (upN (upN cg 2 (v.2.2.2.2.2.2.2.2.2.2.2.2.2.1)) 3 (v.2.2.2.2.2.2.2.2.2.2.2.2.2.2.1)) 4 (v.2.2.2.2.2.2.2.2.2.2.2.2.2.2.2.1)) 5 (v.2.2.2.2.2.2.2.2.2.2.2.2.2.2.2.2.1)) 6 (v.2.2.2.2.2.2.2.2.2.2.2.2.2.2.2.2.2.1)) 7 (v.2.2.2.2.2.2.2.2.2.2.2.2.2.2.2.2.2.2))) (r := (wI (v.1))) [0, 79, 80, 81, 82, 83, 84, 85, 86, 87, 88, 89, 90, 91, 92, 93, 94, 95, 96, 97, 98, 99, 100, 101, 3, 4, 5, 6, 7, 8, 9] [some 0, none, none, some 24, some 25, some 26, some 27, some 28, some 29, some 30, none, none, none, none, none, none, none, none, none, none, none, none, none, none, none, none, none, none, none, none, none, none, none, none, none, none, none, none, none, none, none, none, none, none, none, none, none, none, none, none, none, none, none, none, none, none, none, none, none, none, none, none, none, none, none, none, none, none, none, none, none, none, none, none, none, none, none, none, none, some 1, some 2, some 3, some 4, some 5, some 6, some 7, some 8, some 9, some 10, some 11, some 12, some 13, some 14, some 15, some 16, some 17, some 18, some 19, some 20, some 21, some 22, some 23, none, none, none, none, none, none, none, none, none, none, none, none, none, none, none, none, none, none, none] C mt_L_246 (c_X8_image _ _ _ _ (x 0) (x 79) (x 80) (x 81) (x 82) (x 83) (x 84) (x 85) (x 86) (x 87) (x 88) (x 89) (x 90) (x 91) (x 92) (x 93) (x 94) (x 95) (x 96) (x 97) (x 98) (x 99) (x 100) (x 101) (x 3) (x 4) (x 5) (x 6) (x 7) (x 8) (x 9) (.int (wI (ci 0))) (.int (wI (ci 1))) (.int (wI (ci 2))) (.ref (x 29)) (.ref (x 1)) (.ref (x 17)) (.ref (x 23)) (.ref (x 42)) (.ref (x 45)) (.ref (x 19)) (.ref (x 22)) (xv xs (i + 1)) (cf 28) (cf 29) (cf 30) (cf 31) (cf 32) (cf 33) (cf 34) (cf 35) (cf 36) (cf 37) (cf 38) (cf 39) (cg 2) (cg 3) (cg 4) (cg 5) (cg 6) (cg 7) (ci 3) (ci 4) (ci 5) (ci 6) (ci 7) (ci 8) (ci 9) (ci 10) (ci 11) (ci 12) (ci 13) (cf 1) (cf 2) (cf 3) (cf 4) (cf 5) (cf 6) 100000 e8) rfl rfl rfl rfl (by decide +kernel) rfl rfl rfl rfl rfl dL_law_2111 ?_
  refine g_aload_n 2 C dL_law_2114 rfl rfl ?_
  refine g_aload_n 0 C dL_law_2115 rfl rfl ?_
  refine g_iload_n 3 C dL_law_2116 rfl rfl ?_
  refine g_iconst C dL_law_2117 ?_
  refine g_iadd C dL_law_2118 ?_
  refine g_sld C S (by omega) dL_law_2119 ?_
  refine g_setI (q0 := 0) (As := [.int (wI (xv xs (i + 1)))]) (ws2 := WW (eCy E) x y (upN ci 60 (w.2.1)) (upN (upN (upN (upN (upN (upN (upN (upN (upN (upN (upN (upN (upN (upN (upN (upN (upN (upN (upN cf 28 (v.2.1)) 29 (v.2.2.1)) 30 (v.2.2.2.1)) 31 (v.2.2.2.2.1)) 32 (v.2.2.2.2.2.1)) 33 (v.2.2.2.2.2.2.1)) 34 (v.2.2.2.2.2.2.2.1)) 35 (v.2.2.2.2.2.2.2.2.1)) 36 (v.2.2.2.2.2.2.2.2.2.1)) 37 (v.2.2.2.2.2.2.2.2.2.2.1)) 38 (v.2.2.2.2.2.2.2.2.2.2.2.1)) 39 (v.2.2.2.2.2.2.2.2.2.2.2.2.1)) 42 (w.2.2.1)) 43 (w.2.2.2.1)) 44 (w.2.2.2.2.1)) 57 (w.2.2.2.2.2.1)) 45 (w.2.2.2.2.2.2.1)) 46 (w.2.2.2.2.2.2.2.1)) 47 (w.2.2.2.2.2.2.2.2)) (upN (upN (upN (upN (upN (upN cg 2 (v.2.2.2.2.2.2.2.2.2.2.2.2.2.1)) 3 (v.2.2.2.2.2.2.2.2.2.2.2.2.2.2.1)) 4 (v.2.2.2.2.2.2.2.2.2.2.2.2.2.2.2.1)) 5 (v.2.2.2.2.2.2.2.2.2.2.2.2.2.2.2.2.1)) 6 (v.2.2.2.2.2.2.2.2.2.2.2.2.2.2.2.2.2.1)) 7 (v.2.2.2.2.2.2.2.2.2.2.2.2.2.2.2.2.2.2))) (r := (wI (w.1))) [102, 104, 105, 106, 119, 107, 108, 109] [none, none, none, none, none, none, none, none, none, none, none, none, none, none, none, none, none, none, none, none, none, none, none, none, none, none, none, none, none, none, none, none, none, none, none, none, none, none, none, none, none, none, none, none, none, none, none, none, none, none, none, none, none, none, none, none, none, none, none, none, none, none, none, none, none, none, none, none, none, none, none, none, none, none, none, none, none, none, none, none, none, none, none, none, none, none, none, none, none, none, none, none, none, none, none, none, none, none, none, none, none, none, some 0, none, some 1, some 2, some 3, some 5, some 6, some 7, none, none, none, none, none, none, none, none, none, some 4, none] C mt_L_249 (c_X9_image _ _ _ _ (y 0) (y 2) (y 3) (y 4) (y 17) (y 5) (y 6) (y 7) (.ref (y 11)) (.ref (y 10)) (.ref (y 9)) (.ref (y 18)) (.ref (y 1)) (.int (wI (ci 0))) (.int (wI (ci 61))) (.int (wI (ci 62))) (.int (wI (ci 63))) (.int (wI (ci 64))) (.long (wJ (ci 65))) (.int (wI (ci 66))) (.int (wI (ci 67))) (.int (wI (ci 1))) (.int (wI (ci 2))) (.ref (y 8)) (.long (wJ (ci 68))) (.long (wJ (ci 69))) (.int (wI (ci 70))) (.long (wJ (ci 71))) (.long (wJ (ci 72))) (.int (wI (ci 73))) (.ref (y 12)) (.ref (y 13)) (.ref (y 14)) (.int (wI (ci 74))) (.int (wI (ci 75))) (.long (wJ (ci 76))) (.long (wJ (ci 77))) (.long (wJ (ci 78))) (.long (wJ (ci 79))) (.int (wI (ci 80))) (.ref (y 15)) (.long (wJ (ci 81))) (.ref (y 16)) (.int (wI (ci 82))) (xv xs (i + 1)) (ci 60) (cf 42) (cf 43) (cf 44) (cf 57) (cf 45) (cf 46) (cf 47) 100000 e9) rfl rfl rfl rfl (by decide +kernel) rfl rfl rfl rfl rfl dL_law_2120 ?_
  refine g_icmp_eq (X := some ()) (Y := none) (v := ()) 2330 C dL_law_2123 rfl (if_pos (by rw [hvw])) (fun _ => ?_) (fun h => nomatch h)
  exact next _ ⟨_, _, _, rfl, N1, R2, N3, R4, R5⟩
theorem case_57 {E : EE} {b Ln : Nat} {xs : Nat → Int32} {x y : Nat → Nat} {i : Int} {ws : va_W} (C : Cx E cL_law RL room_1) (S : Scr E b Ln xs) (hi : 0 ≤ i ∧ i + 6 ≤ (Ln : Int)) (hI : Inv (eCy E) x y ws) (next : ∀ w, Inv (eCy E) x y w → GG E 121 14405 w [some (.ref b), some (.ref (x 0)), some (.ref (y 0)), some (.int (wI i))] 2330 []) : GG E 121 14405 ws [some (.ref b), some (.ref (x 0)), some (.ref (y 0)), some (.int (wI i))] 2128 [] := by
  obtain ⟨ci, cf, cg, rfl, R1, R2, R3, R4, R5⟩ := hI
  refine g_aload_n 1 C dL_law_2128 rfl rfl ?_
  refine g_aload_n 0 C dL_law_2129 rfl rfl ?_
  refine g_iload_n 3 C dL_law_2130 rfl rfl ?_
  refine g_iconst C dL_law_2131 ?_
  refine g_iadd C dL_law_2132 ?_
  refine g_sld C S (by omega) dL_law_2133 ?_
  obtain ⟨v, w, e8, e9, hvw, N1, N2, N3⟩ := op_backk (F := 100000) (by decide) R1 R2 R3 (xv_in xs (i + 1))
  refine g_setI (q0 := 0) (As := [.int (wI (xv xs (i + 1)))]) (ws2 := WW (eCy E) x y (upN (upN (upN (upN (upN (upN (upN (upN (upN (upN (upN ci 3 (v.2.1)) 4 (v.2.2.1)) 5 (v.2.2.2.1)) 6 (v.2.2.2.2.1)) 7 (v.2.2.2.2.2.1)) 8 (v.2.2.2.2.2.2.1)) 9 (v.2.2.2.2.2.2.2.1)) 10 (v.2.2.2.2.2.2.2.2.1)) 11 (v.2.2.2.2.2.2.2.2.2.1)) 12 (v.2.2.2.2.2.2.2.2.2.2.1)) 13 (v.2.2.2.2.2.2.2.2.2.2.2.1)) (upN (upN (upN (upN (upN (upN cf 1 (v.2.2.2.2.2.2.2.2.2.2.2.2.1)) 2 (v.2.2.2.2.2.2.2.2.2.2.2.2.2.1)) 3 (v.2.2.2.2.2.2.2.2.2.2.2.2.2.2.1)) 4 (v.2.2.2.2.2.2.2.2.2.2.2.2.2.2.2.1)) 5 (v.2.2.2.2.2.2.2.2.2.2.2.2.2.2.2.2.1)) 6 (v.2.2.2.2.2.2.2.2.2.2.2.2.2.2.2.2.2)) cg) (r := (wI (v.1))) [0, 79, 80, 81, 82, 83, 84, 85, 86, 87, 88, 89, 90, 91, 92, 93, 94, 95, 96, 97, 98, 99, 100, 101, 3, 4, 5, 6, 7, 8, 9] [some 0, none, none, some 24, some 25, some 26, some 27, some 28, some 29, some 30, none, none, none, none, none, none, none, none, none, none, none, none, none, none, none, none, none, none, none, none, none, none, none, none, none, none, none, none, none, none, none, none, none, none, none, none, none, none, none, none, none, none, none, none, none, none, none, none, none, none, none, none, none, none, none, none, none, none, none, none, none, none, none, none, none, none, none, none, none, some 1, some 2, some 3, some 4, some 5, some 6, some 7, some 8, some 9, some 10, some 11, some 12, some 13, some 14, some 15, some 16, some 17, some 18, some 19, some 20, some 21, some 22, some 23, none, none, none, none, none, none, none, none, none, none, none, none, none, none, none, none, none, none, none] C mt_L_250 (c_X8_back_ _ _ _ _ (x 0) (x 79) (x 80) (x 81) (x 82) (x 83) (x 84) (x 85) (x 86) (x 87) (x 88) (x 89) (x 90) (x 91) (x 92) (x 93) (x 94) (x 95) (x 96) (x 97) (x 98) (x 99) (x 100) (x 101) (x 3) (x 4) (x 5) (x 6) (x 7) (x 8) (x 9) (.int (wI (ci 0))) (.int (wI (ci 1))) (.int (wI (ci 2))) (.ref (x 29)) (.ref (x 1)) (.ref (x 17)) (.ref (x 23)) (.ref (x 42)) (.ref (x 45)) (.ref (x 19)) (.ref (x 22)) (xv xs (i + 1)) (cf 28) (cf 29) (cf 30) (cf 31) (cf 32) (cf 33) (cf 34) (cf 35) (cf 36) (cf 37) (cf 38) (cf 39) (cg 2) (cg 3) (cg 4) (cg 5) (cg 6) (cg 7) (ci 3) (ci 4) (ci 5) (ci 6) (ci 7) (ci 8) (ci 9) (ci 10) (ci 11) (ci 12) (ci 13) (cf 1) (cf 2) (cf 3) (cf 4) (cf 5) (cf 6) 100000 e8) rfl rfl rfl rfl (by decide +kernel) rfl rfl rfl rfl rfl dL_law_2134 ?_
  refine g_aload_n 2 C dL_law_2137 rfl rfl ?_
  refine g_aload_n 0 C dL_law_2138 rfl rfl ?_
  refine g_iload_n 3 C dL_law_2139 rfl rfl ?_
  refine g_iconst C dL_law_2140 ?_
  refine g_iadd C dL_law_2141 ?_
  refine g_sld C S (by omega) dL_law_2142 ?_
  refine g_setI (q0 := 0) (As := [.int (wI (xv xs (i + 1)))]) (ws2 := WW (eCy E) x y (upN (upN (upN (upN (upN (upN (upN (upN (upN (upN (upN (upN ci 3 (v.2.1)) 4 (v.2.2.1)) 5 (v.2.2.2.1)) 6 (v.2.2.2.2.1)) 7 (v.2.2.2.2.2.1)) 8 (v.2.2.2.2.2.2.1)) 9 (v.2.2.2.2.2.2.2.1)) 10 (v.2.2.2.2.2.2.2.2.1)) 11 (v.2.2.2.2.2.2.2.2.2.1)) 12 (v.2.2.2.2.2.2.2.2.2.2.1)) 13 (v.2.2.2.2.2.2.2.2.2.2.2.1)) 60 (w.2.1)) (upN (upN (upN (upN (upN (upN (upN (upN (upN (upN (upN (upN cf 1 (v.2.2.2.2.2.2.2.2.2.2.2.2.1)) 2 (v.2.2.2.2.2.2.2.2.2.2.2.2.2.1)) 3 (v.2.2.2.2.2.2.2.2.2.2.2.2.2.2.1)) 4 (v.2.2.2.2.2.2.2.2.2.2.2.2.2.2.2.1)) 5 (v.2.2.2.2.2.2.2.2.2.2.2.2.2.2.2.2.1)) 6 (v.2.2.2.2.2.2.2.2.2.2.2.2.2.2.2.2.2)) 42 (w.2.2.1)) 43 (w.2.2.2.1)) 44 (w.2.2.2.2.1)) 45 (w.2.2.2.2.2.1)) 46 (w.2.2.2.2.2.2.1)) 47 (w.2.2.2.2.2.2.2)) cg) (r := (wI (w.1))) [102, 104, 105, 106, 119, 107, 108, 109] [none, none, none, none, none, none, none, none, none, none, none, none, none, none, none, none, none, none, none, none, none, none, none, none, none, none, none, none, none, none, none, none, none, none, none, none, none, none, none, none, none, none, none, none, none, none, none, none, none, none, none, none, none, none, none, none, none, none, none, none, none, none, none, none, none, none, none, none, none, none, none, none, none, none, none, none, none, none, none, none, none, none, none, none, none, none, none, none, none, none, none, none, none, none, none, none, none, none, none, none, none, none, some 0, none, some 1, some 2, some 3, some 5, some 6, some 7, none, none, none, none, none, none, none, none, none, some 4, none] C mt_L_252 (c_X9_back_ _ _ _ _ (y 0) (y 2) (y 3) (y 4) (y 17) (y 5) (y 6) (y 7) (.ref (y 11)) (.ref (y 10)) (.ref (y 9)) (.ref (y 18)) (.ref (y 1)) (.int (wI (ci 0))) (.int (wI (ci 61))) (.int (wI (ci 62))) (.int (wI (ci 63))) (.int (wI (ci 64))) (.long (wJ (ci 65))) (.int (wI (ci 66))) (.int (wI (ci 67))) (.int (wI (ci 1))) (.int (wI (ci 2))) (.ref (y 8)) (.long (wJ (ci 68))) (.long (wJ (ci 69))) (.int (wI (ci 70))) (.long (wJ (ci 71))) (.long (wJ (ci 72))) (.int (wI (ci 73))) (.ref (y 12)) (.ref (y 13)) (.ref (y 14)) (.int (wI (ci 74))) (.int (wI (ci 75))) (.long (wJ (ci 76))) (.long (wJ (ci 77))) (.long (wJ (ci 78))) (.long (wJ (ci 79))) (.int (wI (ci 80))) (.ref (y 15)) (.long (wJ (ci 81))) (.ref (y 16)) (.int (wI (ci 82))) (xv xs (i + 1)) (ci 60) (cf 42) (cf 43) (cf 44) (cf 57) (cf 45) (cf 46) (cf 47) 100000 e9) rfl rfl rfl rfl (by decide +kernel) rfl rfl rfl rfl rfl dL_law_2143 ?_
  refine g_icmp_eq (X := some ()) (Y := none) (v := ()) 2330 C dL_law_2146 rfl (if_pos (by rw [hvw])) (fun _ => ?_) (fun h => nomatch h)
  exact next _ ⟨_, _, _, rfl, N1, N2, N3, R4, R5⟩
theorem case_58 {E : EE} {b Ln : Nat} {xs : Nat → Int32} {x y : Nat → Nat} {i : Int} {ws : va_W} (C : Cx E cL_law RL room_1) (S : Scr E b Ln xs) (hi : 0 ≤ i ∧ i + 6 ≤ (Ln : Int)) (hI : Inv (eCy E) x y ws) (next : ∀ w, Inv (eCy E) x y w → GG E 121 14405 w [some (.ref b), some (.ref (x 0)), some (.ref (y 0)), some (.int (wI i))] 2330 []) : GG E 121 14405 ws [some (.ref b), some (.ref (x 0)), some (.ref (y 0)), some (.int (wI i))] 2151 [] := by
  obtain ⟨ci, cf, cg, rfl, R1, R2, R3, R4, R5⟩ := hI
  refine g_aload_n 1 C dL_law_2151 rfl rfl ?_
  refine g_aload_n 0 C dL_law_2152 rfl rfl ?_
  refine g_iload_n 3 C dL_law_2153 rfl rfl ?_
  refine g_iconst C dL_law_2154 ?_
  refine g_iadd C dL_law_2155 ?_
  refine g_sld C S (by omega) dL_law_2156 ?_
  refine g_aload_n 0 C dL_law_2157 rfl rfl ?_
  refine g_iload_n 3 C dL_law_2158 rfl rfl ?_
  refine g_iconst C dL_law_2159 ?_
  refine g_iadd C dL_law_2160 ?_
  refine g_sld C S (by omega) dL_law_2161 ?_
  refine g_aload_n 0 C dL_law_2162 rfl rfl ?_
  refine g_iload_n 3 C dL_law_2163 rfl rfl ?_
  refine g_iconst C dL_law_2164 ?_
  refine g_iadd C dL_law_2165 ?_
  refine g_sld C S (by omega) dL_law_2166 ?_
  have h := op_row (F := 100000) (by decide) R4 (xv_in xs (i + 1)) (xv_in xs (i + 2)) (xv_in xs (i + 3))
  refine h.elim (fun u0 h => ?_)
  refine h.elim (fun u1 h => ?_)
  refine h.elim (fun u2 h => ?_)
  refine h.elim (fun u3 h => ?_)
  refine h.elim (fun u4 h => ?_)
  refine h.elim (fun u5 h => ?_)
  refine h.elim (fun u6 h => ?_)
  refine h.elim (fun u7 h => ?_)
  refine h.elim (fun u8 h => ?_)
  obtain ⟨e8, e9, N4⟩ := h
  refine g_setI (q0 := 0) (As := [.int (wI (xv xs (i + 1))), .int (wI (xv xs (i + 2))), .int (wI (xv xs (i + 3)))]) (ws2 := WW (eCy E) x y ci (upN (upN (upN cf 18 (u1)) 40 (u2)) 19 (u3)) (upN cg 0 (u4))) (r := (wI (u0))) [0, 29, 30, 31, 32, 33, 34, 35, 36, 37] [some 0, none, none, none, none, none, none, none, none, none, none, none, none, none, none, none, none, none, none, none, none, none, none, none, none, none, none, none, none, some 1, some 2, some 3, some 4, some 5, some 6, some 7, some 8, some 9, none, none, none, none, none, none, none, none, none, none, none, none, none, none, none, none, none, none, none, none, none, none, none, none, none, none, none, none, none, none, none, none, none, none, none, none, none, none, none, none, none, none, none, none, none, none, none, none, none, none, none, none, none, none, none, none, none, none, none, none, none, none, none, none, none, none, none, none, none, none, none, none, none, none, none, none, none, none, none, none, none, none, none] C mt_L_253 (c_X8_row _ _ _ _ (x 0) (x 29) (x 30) (x 31) (x 32) (x 33) (x 34) (x 35) (x 36) (x 37) (.int (wI (ci 0))) (.int (wI (ci 1))) (.int (wI (ci 2))) (.ref (x 3)) (.ref (x 80)) (.ref (x 79)) (.ref (x 1)) (.ref (x 17)) (.ref (x 23)) (.ref (x 42)) (.ref (x 45)) (.ref (x 19)) (.ref (x 22)) (xv xs (i + 1)) (xv xs (i + 2)) (xv xs (i + 3)) (cf 18) (cf 40) (cf 19) (cg 0) 100000 e8) rfl rfl rfl rfl (by decide +kernel) rfl rfl rfl rfl rfl dL_law_2167 ?_
  refine g_aload_n 2 C dL_law_2170 rfl rfl ?_
  refine g_aload_n 0 C dL_law_2171 rfl rfl ?_
  refine g_iload_n 3 C dL_law_2172 rfl rfl ?_
  refine g_iconst C dL_law_2173 ?_
  refine g_iadd C dL_law_2174 ?_
  refine g_sld C S (by omega) dL_law_2175 ?_
  refine g_aload_n 0 C dL_law_2176 rfl rfl ?_
  refine g_iload_n 3 C dL_law_2177 rfl rfl ?_
  refine g_iconst C dL_law_2178 ?_
  refine g_iadd C dL_law_2179 ?_
  refine g_sld C S (by omega) dL_law_2180 ?_
  refine g_aload_n 0 C dL_law_2181 rfl rfl ?_
  refine g_iload_n 3 C dL_law_2182 rfl rfl ?_
  refine g_iconst C dL_law_2183 ?_
  refine g_iadd C dL_law_2184 ?_
  refine g_sld C S (by omega) dL_law_2185 ?_
  refine g_setI (q0 := 0) (As := [.int (wI (xv xs (i + 1))), .int (wI (xv xs (i + 2))), .int (wI (xv xs (i + 3)))]) (ws2 := WW (eCy E) x y (upN ci 60 (u5)) (upN (upN (upN (upN (upN (upN cf 18 (u1)) 40 (u2)) 19 (u3)) 49 (u6)) 50 (u7)) 51 (u8)) (upN cg 0 (u4))) (r := (wI (u0))) [102, 111, 112, 113] [none, none, none, none, none, none, none, none, none, none, none, none, none, none, none, none, none, none, none, none, none, none, none, none, none, none, none, none, none, none, none, none, none, none, none, none, none, none, none, none, none, none, none, none, none, none, none, none, none, none, none, none, none, none, none, none, none, none, none, none, none, none, none, none, none, none, none, none, none, none, none, none, none, none, none, none, none, none, none, none, none, none, none, none, none, none, none, none, none, none, none, none, none, none, none, none, none, none, none, none, none, none, some 0, none, none, none, none, none, none, none, none, some 1, some 2, some 3, none, none, none, none, none, none, none] C mt_L_256 (c_X9_row _ _ _ _ (y 0) (y 9) (y 10) (y 11) (.ref (y 18)) (.ref (y 1)) (.int (wI (ci 0))) (.int (wI (ci 61))) (.int (wI (ci 62))) (.int (wI (ci 63))) (.int (wI (ci 64))) (.long (wJ (ci 65))) (.int (wI (ci 66))) (.int (wI (ci 67))) (.int (wI (ci 1))) (.int (wI (ci 2))) (.ref (y 5)) (.ref (y 4)) (.ref (y 7)) (.ref (y 6)) (.ref (y 3)) (.ref (y 2)) (.ref (y 17)) (.ref (y 8)) (.long (wJ (ci 68))) (.long (wJ (ci 69))) (.int (wI (ci 70))) (.long (wJ (ci 71))) (.long (wJ (ci 72))) (.int (wI (ci 73))) (.ref (y 12)) (.ref (y 13)) (.ref (y 14)) (.int (wI (ci 74))) (.int (wI (ci 75))) (.long (wJ (ci 76))) (.long (wJ (ci 77))) (.long (wJ (ci 78))) (.long (wJ (ci 79))) (.int (wI (ci 80))) (.ref (y 15)) (.long (wJ (ci 81))) (.ref (y 16)) (.int (wI (ci 82))) (xv xs (i + 1)) (xv xs (i + 2)) (xv xs (i + 3)) (ci 60) (cf 49) (cf 50) (cf 51) 100000 e9) rfl rfl rfl rfl (by decide +kernel) rfl rfl rfl rfl rfl dL_law_2186 ?_
  refine g_icmp_eq (X := some ()) (Y := none) (v := ()) 2330 C dL_law_2189 rfl (if_pos rfl) (fun _ => ?_) (fun h => nomatch h)
  exact next _ ⟨_, _, _, rfl, R1, R2, R3, N4, R5⟩
theorem case_59 {E : EE} {b Ln : Nat} {xs : Nat → Int32} {x y : Nat → Nat} {i : Int} {ws : va_W} (C : Cx E cL_law RL room_1) (S : Scr E b Ln xs) (hi : 0 ≤ i ∧ i + 6 ≤ (Ln : Int)) (hI : Inv (eCy E) x y ws) (next : ∀ w, Inv (eCy E) x y w → GG E 121 14405 w [some (.ref b), some (.ref (x 0)), some (.ref (y 0)), some (.int (wI i))] 2330 []) : GG E 121 14405 ws [some (.ref b), some (.ref (x 0)), some (.ref (y 0)), some (.int (wI i))] 2194 [] := by
  obtain ⟨ci, cf, cg, rfl, R1, R2, R3, R4, R5⟩ := hI
  refine g_aload_n 1 C dL_law_2194 rfl rfl ?_
  refine g_aload_n 0 C dL_law_2195 rfl rfl ?_
  refine g_iload_n 3 C dL_law_2196 rfl rfl ?_
  refine g_iconst C dL_law_2197 ?_
  refine g_iadd C dL_law_2198 ?_
  refine g_sld C S (by omega) dL_law_2199 ?_
  refine g_aload_n 0 C dL_law_2200 rfl rfl ?_
  refine g_iload_n 3 C dL_law_2201 rfl rfl ?_
  refine g_iconst C dL_law_2202 ?_
  refine g_iadd C dL_law_2203 ?_
  refine g_sld C S (by omega) dL_law_2204 ?_
  refine g_aload_n 0 C dL_law_2205 rfl rfl ?_
  refine g_iload_n 3 C dL_law_2206 rfl rfl ?_
  refine g_iconst C dL_law_2207 ?_
  refine g_iadd C dL_law_2208 ?_
  refine g_sld C S (by omega) dL_law_2209 ?_
  refine g_i2l C dL_law_2210 (xv_in _ _) ?_
  refine g_bipush C dL_law_2211 rfl ?_
  refine g_lshl C dL_law_2213 ?_
  refine g_aload_n 0 C dL_law_2214 rfl rfl ?_
  refine g_iload_n 3 C dL_law_2215 rfl rfl ?_
  refine g_iconst C dL_law_2216 ?_
  refine g_iadd C dL_law_2217 ?_
  refine g_sld C S (by omega) dL_law_2218 ?_
  refine g_i2l C dL_law_2219 (xv_in _ _) ?_
  refine g_ldc2 (v := 4294967295) C (wl_in (List.mem_of_getElem? (i := 2010) (by decide +kernel)) (by decide +kernel)) dL_law_2220 ?_
  refine g_land C dL_law_2223 ?_
  refine g_lor C dL_law_2224 ?_
  have h := op_write (F := 100000) R4 (xv_in xs (i + 1)) (xv_in xs (i + 2)) (orJ_in (shlJ (xv xs (i + 3)) 32) (andJ (xv xs (i + 4)) 4294967295))
  refine h.elim (fun u0 h => ?_)
  refine h.elim (fun u1 h => ?_)
  refine h.elim (fun u2 h => ?_)
  refine h.elim (fun u3 h => ?_)
  obtain ⟨e8, e9, N4⟩ := h
  refine g_setI (q0 := 0) (As := [.int (wI (xv xs (i + 1))), .int (wI (xv xs (i + 2))), .long (wJ (orJ (shlJ (xv xs (i + 3)) 32) (andJ (xv xs (i + 4)) 4294967295)))]) (ws2 := WW (eCy E) x y ci cf (upN cg 0 (u1))) (r := (wI (u0))) [0, 29, 30, 31, 32, 33, 34, 35, 36, 37] [some 0, none, none, none, none, none, none, none, none, none, none, none, none, none, none, none, none, none, none, none, none, none, none, none, none, none, none, none, none, some 1, some 2, some 3, some 4, some 5, some 6, some 7, some 8, some 9, none, none, none, none, none, none, none, none, none, none, none, none, none, none, none, none, none, none, none, none, none, none, none, none, none, none, none, none, none, none, none, none, none, none, none, none, none, none, none, none, none, none, none, none, none, none, none, none, none, none, none, none, none, none, none, none, none, none, none, none, none, none, none, none, none, none, none, none, none, none, none, none, none, none, none, none, none, none, none, none, none, none, none] C mt_L_259 (c_X8_write _ _ _ _ (x 0) (x 29) (x 30) (x 31) (x 32) (x 33) (x 34) (x 35) (x 36) (x 37) (.int (wI (ci 0))) (.int (wI (ci 1))) (.int (wI (ci 2))) (.ref (x 3)) (.ref (x 80)) (.ref (x 79)) (.ref (x 1)) (.ref (x 17)) (.ref (x 23)) (.ref (x 42)) (.ref (x 45)) (.ref (x 19)) (.ref (x 22)) (xv xs (i + 1)) (xv xs (i + 2)) (orJ (shlJ (xv xs (i + 3)) 32) (andJ (xv xs (i + 4)) 4294967295)) (cf 18) (cf 40) (cf 19) (cg 0) 100000 e8) rfl rfl rfl rfl (by decide +kernel) rfl rfl rfl rfl rfl dL_law_2225 ?_
  refine g_aload_n 2 C dL_law_2228 rfl rfl ?_
  refine g_aload_n 0 C dL_law_2229 rfl rfl ?_
  refine g_iload_n 3 C dL_law_2230 rfl rfl ?_
  refine g_iconst C dL_law_2231 ?_
  refine g_iadd C dL_law_2232 ?_
  refine g_sld C S (by omega) dL_law_2233 ?_
  refine g_aload_n 0 C dL_law_2234 rfl rfl ?_
  refine g_iload_n 3 C dL_law_2235 rfl rfl ?_
  refine g_iconst C dL_law_2236 ?_
  refine g_iadd C dL_law_2237 ?_
  refine g_sld C S (by omega) dL_law_2238 ?_
  refine g_aload_n 0 C dL_law_2239 rfl rfl ?_
  refine g_iload_n 3 C dL_law_2240 rfl rfl ?_
  refine g_iconst C dL_law_2241 ?_
  refine g_iadd C dL_law_2242 ?_
  refine g_sld C S (by omega) dL_law_2243 ?_
  refine g_i2l C dL_law_2244 (xv_in _ _) ?_
  refine g_bipush C dL_law_2245 rfl ?_
  refine g_lshl C dL_law_2247 ?_
  refine g_aload_n 0 C dL_law_2248 rfl rfl ?_
  refine g_iload_n 3 C dL_law_2249 rfl rfl ?_
  refine g_iconst C dL_law_2250 ?_
  refine g_iadd C dL_law_2251 ?_
  refine g_sld C S (by omega) dL_law_2252 ?_
  refine g_i2l C dL_law_2253 (xv_in _ _) ?_
  refine g_ldc2 (v := 4294967295) C (wl_in (List.mem_of_getElem? (i := 2010) (by decide +kernel)) (by decide +kernel)) dL_law_2254 ?_
  refine g_land C dL_law_2257 ?_
  refine g_lor C dL_law_2258 ?_
  refine g_setI (q0 := 0) (As := [.int (wI (xv xs (i + 1))), .int (wI (xv xs (i + 2))), .long (wJ (orJ (shlJ (xv xs (i + 3)) 32) (andJ (xv xs (i + 4)) 4294967295)))]) (ws2 := WW (eCy E) x y (upN ci 60 (u2)) (upN cf 49 (u3)) (upN cg 0 (u1))) (r := (wI (u0))) [102, 111, 112, 113] [none, none, none, none, none, none, none, none, none, none, none, none, none, none, none, none, none, none, none, none, none, none, none, none, none, none, none, none, none, none, none, none, none, none, none, none, none, none, none, none, none, none, none, none, none, none, none, none, none, none, none, none, none, none, none, none, none, none, none, none, none, none, none, none, none, none, none, none, none, none, none, none, none, none, none, none, none, none, none, none, none, none, none, none, none, none, none, none, none, none, none, none, none, none, none, none, none, none, none, none, none, none, some 0, none, none, none, none, none, none, none, none, some 1, some 2, some 3, none, none, none, none, none, none, none] C mt_L_263 (c_X9_write _ _ _ _ (y 0) (y 9) (y 10) (y 11) (.ref (y 18)) (.ref (y 1)) (.int (wI (ci 0))) (.int (wI (ci 61))) (.int (wI (ci 62))) (.int (wI (ci 63))) (.int (wI (ci 64))) (.long (wJ (ci 65))) (.int (wI (ci 66))) (.int (wI (ci 67))) (.int (wI (ci 1))) (.int (wI (ci 2))) (.ref (y 5)) (.ref (y 4)) (.ref (y 7)) (.ref (y 6)) (.ref (y 3)) (.ref (y 2)) (.ref (y 17)) (.ref (y 8)) (.long (wJ (ci 68))) (.long (wJ (ci 69))) (.int (wI (ci 70))) (.long (wJ (ci 71))) (.long (wJ (ci 72))) (.int (wI (ci 73))) (.ref (y 12)) (.ref (y 13)) (.ref (y 14)) (.int (wI (ci 74))) (.int (wI (ci 75))) (.long (wJ (ci 76))) (.long (wJ (ci 77))) (.long (wJ (ci 78))) (.long (wJ (ci 79))) (.int (wI (ci 80))) (.ref (y 15)) (.long (wJ (ci 81))) (.ref (y 16)) (.int (wI (ci 82))) (xv xs (i + 1)) (xv xs (i + 2)) (orJ (shlJ (xv xs (i + 3)) 32) (andJ (xv xs (i + 4)) 4294967295)) (ci 60) (cf 49) (cf 50) (cf 51) 100000 e9) rfl rfl rfl rfl (by decide +kernel) rfl rfl rfl rfl rfl dL_law_2259 ?_
  refine g_icmp_eq (X := some ()) (Y := none) (v := ()) 2330 C dL_law_2262 rfl (if_pos rfl) (fun _ => ?_) (fun h => nomatch h)
  exact next _ ⟨_, _, _, rfl, R1, R2, R3, N4, R5⟩
theorem case_60 {E : EE} {b Ln : Nat} {xs : Nat → Int32} {x y : Nat → Nat} {i : Int} {ws : va_W} (C : Cx E cL_law RL room_1) (S : Scr E b Ln xs) (hi : 0 ≤ i ∧ i + 6 ≤ (Ln : Int)) (hI : Inv (eCy E) x y ws) (next : ∀ w, Inv (eCy E) x y w → GG E 121 14405 w [some (.ref b), some (.ref (x 0)), some (.ref (y 0)), some (.int (wI i))] 2330 []) : GG E 121 14405 ws [some (.ref b), some (.ref (x 0)), some (.ref (y 0)), some (.int (wI i))] 2267 [] := by
  obtain ⟨ci, cf, cg, rfl, R1, R2, R3, R4, R5⟩ := hI
  refine g_aload_n 1 C dL_law_2267 rfl rfl ?_
  refine g_aload_n 0 C dL_law_2268 rfl rfl ?_
  refine g_iload_n 3 C dL_law_2269 rfl rfl ?_
  refine g_iconst C dL_law_2270 ?_
  refine g_iadd C dL_law_2271 ?_
  refine g_sld C S (by omega) dL_law_2272 ?_
  refine g_aload_n 0 C dL_law_2273 rfl rfl ?_
  refine g_iload_n 3 C dL_law_2274 rfl rfl ?_
  refine g_iconst C dL_law_2275 ?_
  refine g_iadd C dL_law_2276 ?_
  refine g_sld C S (by omega) dL_law_2277 ?_
  refine g_aload_n 0 C dL_law_2278 rfl rfl ?_
  refine g_iload_n 3 C dL_law_2279 rfl rfl ?_
  refine g_iconst C dL_law_2280 ?_
  refine g_iadd C dL_law_2281 ?_
  refine g_sld C S (by omega) dL_law_2282 ?_
  refine g_aload_n 0 C dL_law_2283 rfl rfl ?_
  refine g_iload_n 3 C dL_law_2284 rfl rfl ?_
  refine g_iconst C dL_law_2285 ?_
  refine g_iadd C dL_law_2286 ?_
  refine g_sld C S (by omega) dL_law_2287 ?_
  refine g_aload_n 0 C dL_law_2288 rfl rfl ?_
  refine g_iload_n 3 C dL_law_2289 rfl rfl ?_
  refine g_iconst C dL_law_2290 ?_
  refine g_iadd C dL_law_2291 ?_
  refine g_sld C S (by omega) dL_law_2292 ?_
  have h := op_paste (F := 100000) (by decide) R4 (xv_in xs (i + 1)) (xv_in xs (i + 2)) (xv_in xs (i + 3)) (xv_in xs (i + 4)) (xv_in xs (i + 5)) (cf 58)
  refine h.elim (fun u0 h => ?_)
  refine h.elim (fun u1 h => ?_)
  refine h.elim (fun u2 h => ?_)
  refine h.elim (fun u3 h => ?_)
  refine h.elim (fun u4 h => ?_)
  obtain ⟨e8, e9, N4⟩ := h
  refine g_setI (q0 := 0) (As := [.int (wI (xv xs (i + 1))), .int (wI (xv xs (i + 2))), .int (wI (xv xs (i + 3))), .int (wI (xv xs (i + 4))), .int (wI (xv xs (i + 5)))]) (ws2 := WW (eCy E) x y ci cf (upN cg 0 (u1))) (r := (wI (u0))) [0, 29, 30, 31, 32, 33, 34, 35, 36, 37] [some 0, none, none, none, none, none, none, none, none, none, none, none, none, none, none, none, none, none, none, none, none, none, none, none, none, none, none, none, none, some 1, some 2, some 3, some 4, some 5, some 6, some 7, some 8, some 9, none, none, none, none, none, none, none, none, none, none, none, none, none, none, none, none, none, none, none, none, none, none, none, none, none, none, none, none, none, none, none, none, none, none, none, none, none, none, none, none, none, none, none, none, none, none, none, none, none, none, none, none, none, none, none, none, none, none, none, none, none, none, none, none, none, none, none, none, none, none, none, none, none, none, none, none, none, none, none, none, none, none, none] C mt_L_264 (c_X8_paste _ _ _ _ (x 0) (x 29) (x 30) (x 31) (x 32) (x 33) (x 34) (x 35) (x 36) (x 37) (.int (wI (ci 0))) (.int (wI (ci 1))) (.int (wI (ci 2))) (.ref (x 3)) (.ref (x 80)) (.ref (x 79)) (.ref (x 1)) (.ref (x 17)) (.ref (x 23)) (.ref (x 42)) (.ref (x 45)) (.ref (x 19)) (.ref (x 22)) (xv xs (i + 1)) (xv xs (i + 2)) (xv xs (i + 3)) (xv xs (i + 4)) (xv xs (i + 5)) (cf 18) (cf 40) (cf 19) (cg 0) 100000 e8) rfl rfl rfl rfl (by decide +kernel) rfl rfl rfl rfl rfl dL_law_2293 ?_
  refine g_aload_n 2 C dL_law_2296 rfl rfl ?_
  refine g_aload_n 0 C dL_law_2297 rfl rfl ?_
  refine g_iload_n 3 C dL_law_2298 rfl rfl ?_
  refine g_iconst C dL_law_2299 ?_
  refine g_iadd C dL_law_2300 ?_
  refine g_sld C S (by omega) dL_law_2301 ?_
  refine g_aload_n 0 C dL_law_2302 rfl rfl ?_
  refine g_iload_n 3 C dL_law_2303 rfl rfl ?_
  refine g_iconst C dL_law_2304 ?_
  refine g_iadd C dL_law_2305 ?_
  refine g_sld C S (by omega) dL_law_2306 ?_
  refine g_aload_n 0 C dL_law_2307 rfl rfl ?_
  refine g_iload_n 3 C dL_law_2308 rfl rfl ?_
  refine g_iconst C dL_law_2309 ?_
  refine g_iadd C dL_law_2310 ?_
  refine g_sld C S (by omega) dL_law_2311 ?_
  refine g_aload_n 0 C dL_law_2312 rfl rfl ?_
  refine g_iload_n 3 C dL_law_2313 rfl rfl ?_
  refine g_iconst C dL_law_2314 ?_
  refine g_iadd C dL_law_2315 ?_
  refine g_sld C S (by omega) dL_law_2316 ?_
  refine g_aload_n 0 C dL_law_2317 rfl rfl ?_
  refine g_iload_n 3 C dL_law_2318 rfl rfl ?_
  refine g_iconst C dL_law_2319 ?_
  refine g_iadd C dL_law_2320 ?_
  refine g_sld C S (by omega) dL_law_2321 ?_
  refine g_setI (q0 := 0) (As := [.int (wI (xv xs (i + 1))), .int (wI (xv xs (i + 2))), .int (wI (xv xs (i + 3))), .int (wI (xv xs (i + 4))), .int (wI (xv xs (i + 5)))]) (ws2 := WW (eCy E) x y (upN ci 60 (u2)) (upN (upN cf 49 (u3)) 58 (u4)) (upN cg 0 (u1))) (r := (wI (u0))) [102, 111, 112, 120, 113] [none, none, none, none, none, none, none, none, none, none, none, none, none, none, none, none, none, none, none, none, none, none, none, none, none, none, none, none, none, none, none, none, none, none, none, none, none, none, none, none, none, none, none, none, none, none, none, none, none, none, none, none, none, none, none, none, none, none, none, none, none, none, none, none, none, none, none, none, none, none, none, none, none, none, none, none, none, none, none, none, none, none, none, none, none, none, none, none, none, none, none, none, none, none, none, none, none, none, none, none, none, none, some 0, none, none, none, none, none, none, none, none, some 1, some 2, some 4, none, none, none, none, none, none, some 3] C mt_L_267 (c_X9_paste _ _ _ _ (y 0) (y 9) (y 10) (y 18) (y 11) (.ref (y 1)) (.int (wI (ci 0))) (.int (wI (ci 61))) (.int (wI (ci 62))) (.int (wI (ci 63))) (.int (wI (ci 64))) (.long (wJ (ci 65))) (.int (wI (ci 66))) (.int (wI (ci 67))) (.int (wI (ci 1))) (.int (wI (ci 2))) (.ref (y 5)) (.ref (y 4)) (.ref (y 7)) (.ref (y 6)) (.ref (y 3)) (.ref (y 2)) (.ref (y 17)) (.ref (y 8)) (.long (wJ (ci 68))) (.long (wJ (ci 69))) (.int (wI (ci 70))) (.long (wJ (ci 71))) (.long (wJ (ci 72))) (.int (wI (ci 73))) (.ref (y 12)) (.ref (y 13)) (.ref (y 14)) (.int (wI (ci 74))) (.int (wI (ci 75))) (.long (wJ (ci 76))) (.long (wJ (ci 77))) (.long (wJ (ci 78))) (.long (wJ (ci 79))) (.int (wI (ci 80))) (.ref (y 15)) (.long (wJ (ci 81))) (.ref (y 16)) (.int (wI (ci 82))) (xv xs (i + 1)) (xv xs (i + 2)) (xv xs (i + 3)) (xv xs (i + 4)) (xv xs (i + 5)) (ci 60) (cf 49) (cf 50) (cf 58) (cf 51) 100000 e9) rfl rfl rfl rfl (by decide +kernel) rfl rfl rfl rfl rfl dL_law_2322 ?_
  refine g_icmp_eq (X := some ()) (Y := none) (v := ()) 2330 C dL_law_2325 rfl (if_pos rfl) (fun _ => ?_) (fun h => nomatch h)
  exact next _ ⟨_, _, _, rfl, R1, R2, R3, N4, R5⟩
