section
theorem dL_law_0 : decode cL_law 0 = .ok (.new 7, 3) := dqn_187 (k := 2260) qh_cL_law rfl rfl rfl
theorem dL_law_3 : decode cL_law 3 = .ok (.dup, 1) := dqn_89 (k := 2259) qh_cL_law rfl rfl
theorem dL_law_4 : decode cL_law 4 = .ok (.invokespecial 9, 3) := dqn_183 (k := 2256) qh_cL_law rfl rfl rfl
theorem dL_law_7 : decode cL_law 7 = .ok (.astore_n 1, 1) := dqn_76 (k := 2255) qh_cL_law rfl rfl
theorem dL_law_8 : decode cL_law 8 = .ok (.new 10, 3) := dqn_187 (k := 2252) qh_cL_law rfl rfl rfl
theorem dL_law_11 : decode cL_law 11 = .ok (.dup, 1) := dqn_89 (k := 2251) qh_cL_law rfl rfl
theorem dL_law_12 : decode cL_law 12 = .ok (.invokespecial 12, 3) := dqn_183 (k := 2248) qh_cL_law rfl rfl rfl
theorem dL_law_15 : decode cL_law 15 = .ok (.astore_n 2, 1) := dqn_77 (k := 2247) qh_cL_law rfl rfl
theorem dL_law_16 : decode cL_law 16 = .ok (.iconst 0, 1) := dqn_3 (k := 2246) qh_cL_law rfl rfl
theorem dL_law_17 : decode cL_law 17 = .ok (.istore_n 3, 1) := dqn_62 (k := 2245) qh_cL_law rfl rfl
theorem dL_law_18 : decode cL_law 18 = .ok (.iload_n 3, 1) := dqn_29 (k := 2244) qh_cL_law rfl rfl
theorem dL_law_19 : decode cL_law 19 = .ok (.aload_n 0, 1) := dqn_42 (k := 2243) qh_cL_law rfl rfl
theorem dL_law_20 : decode cL_law 20 = .ok (.arraylength, 1) := dqn_190 (k := 2242) qh_cL_law rfl rfl
theorem dL_law_21 : decode cL_law 21 = .ok (.bipush 8, 2) := dqn_16 (k := 2240) (u := 8) qh_cL_law rfl rfl rfl (by decide)
theorem dL_law_23 : decode cL_law 23 = .ok (.isub, 1) := dqn_100 (k := 2239) qh_cL_law rfl rfl
theorem dL_law_24 : decode cL_law 24 = .ok (.if_icmp .gt 2237, 3) := dqn_163 (k := 2236) (u := 2237) qh_cL_law rfl rfl rfl (sg_p rfl rfl)
theorem dL_law_27 : decode cL_law 27 = .ok (.aload_n 0, 1) := dqn_42 (k := 2235) qh_cL_law rfl rfl
theorem dL_law_28 : decode cL_law 28 = .ok (.iload_n 3, 1) := dqn_29 (k := 2234) qh_cL_law rfl rfl
theorem dL_law_29 : decode cL_law 29 = .ok (.iaload, 1) := dqn_46 (k := 2233) qh_cL_law rfl rfl
theorem dL_law_30 : decode cL_law 30 = .ok (.bipush 63, 2) := dqn_16 (k := 2231) (u := 63) qh_cL_law rfl rfl rfl (by decide)
theorem dL_law_32 : decode cL_law 32 = .ok (.iand, 1) := dqn_126 (k := 2230) qh_cL_law rfl rfl
theorem dL_law_33 : decode cL_law 33 = .ok (.tableswitch 2222 0 42 #[187, 250, 273, 306, 329, 362, 415, 458, 501, 564, 607, 650, 709, 762, 815, 868, 911, 970, 1013, 1066, 1109, 1162, 1231, 1284, 1353, 1386, 1449, 1492, 1525, 1558, 1591, 1660, 1703, 1756, 1835, 1878, 1911, 1970, 2057, 2100, 2153, 2176, 2199], 187) := by decide +kernel
theorem dL_law_220 : decode cL_law 220 = .ok (.aload_n 1, 1) := dqn_43 (k := 2042) qh_cL_law rfl rfl
theorem dL_law_221 : decode cL_law 221 = .ok (.aload_n 0, 1) := dqn_42 (k := 2041) qh_cL_law rfl rfl
theorem dL_law_222 : decode cL_law 222 = .ok (.iload_n 3, 1) := dqn_29 (k := 2040) qh_cL_law rfl rfl
theorem dL_law_223 : decode cL_law 223 = .ok (.iconst 1, 1) := dqn_4 (k := 2039) qh_cL_law rfl rfl
theorem dL_law_224 : decode cL_law 224 = .ok (.iadd, 1) := dqn_96 (k := 2038) qh_cL_law rfl rfl
theorem dL_law_225 : decode cL_law 225 = .ok (.iaload, 1) := dqn_46 (k := 2037) qh_cL_law rfl rfl
theorem dL_law_226 : decode cL_law 226 = .ok (.aload_n 0, 1) := dqn_42 (k := 2036) qh_cL_law rfl rfl
theorem dL_law_227 : decode cL_law 227 = .ok (.iload_n 3, 1) := dqn_29 (k := 2035) qh_cL_law rfl rfl
theorem dL_law_228 : decode cL_law 228 = .ok (.iconst 2, 1) := dqn_5 (k := 2034) qh_cL_law rfl rfl
theorem dL_law_229 : decode cL_law 229 = .ok (.iadd, 1) := dqn_96 (k := 2033) qh_cL_law rfl rfl
theorem dL_law_230 : decode cL_law 230 = .ok (.iaload, 1) := dqn_46 (k := 2032) qh_cL_law rfl rfl
theorem dL_law_231 : decode cL_law 231 = .ok (.aload_n 0, 1) := dqn_42 (k := 2031) qh_cL_law rfl rfl
theorem dL_law_232 : decode cL_law 232 = .ok (.iload_n 3, 1) := dqn_29 (k := 2030) qh_cL_law rfl rfl
theorem dL_law_233 : decode cL_law 233 = .ok (.iconst 3, 1) := dqn_6 (k := 2029) qh_cL_law rfl rfl
theorem dL_law_234 : decode cL_law 234 = .ok (.iadd, 1) := dqn_96 (k := 2028) qh_cL_law rfl rfl
theorem dL_law_235 : decode cL_law 235 = .ok (.iaload, 1) := dqn_46 (k := 2027) qh_cL_law rfl rfl
theorem dL_law_236 : decode cL_law 236 = .ok (.aload_n 0, 1) := dqn_42 (k := 2026) qh_cL_law rfl rfl
theorem dL_law_237 : decode cL_law 237 = .ok (.iload_n 3, 1) := dqn_29 (k := 2025) qh_cL_law rfl rfl
theorem dL_law_238 : decode cL_law 238 = .ok (.iconst 4, 1) := dqn_7 (k := 2024) qh_cL_law rfl rfl
theorem dL_law_239 : decode cL_law 239 = .ok (.iadd, 1) := dqn_96 (k := 2023) qh_cL_law rfl rfl
theorem dL_law_240 : decode cL_law 240 = .ok (.iaload, 1) := dqn_46 (k := 2022) qh_cL_law rfl rfl
theorem dL_law_241 : decode cL_law 241 = .ok (.aload_n 0, 1) := dqn_42 (k := 2021) qh_cL_law rfl rfl
theorem dL_law_242 : decode cL_law 242 = .ok (.iload_n 3, 1) := dqn_29 (k := 2020) qh_cL_law rfl rfl
theorem dL_law_243 : decode cL_law 243 = .ok (.iconst 5, 1) := dqn_8 (k := 2019) qh_cL_law rfl rfl
theorem dL_law_244 : decode cL_law 244 = .ok (.iadd, 1) := dqn_96 (k := 2018) qh_cL_law rfl rfl
theorem dL_law_245 : decode cL_law 245 = .ok (.iaload, 1) := dqn_46 (k := 2017) qh_cL_law rfl rfl
theorem dL_law_246 : decode cL_law 246 = .ok (.invokevirtual 13, 3) := dqn_182 (k := 2014) qh_cL_law rfl rfl rfl
theorem dL_law_249 : decode cL_law 249 = .ok (.pop, 1) := dqn_87 (k := 2013) qh_cL_law rfl rfl
theorem dL_law_250 : decode cL_law 250 = .ok (.aload_n 2, 1) := dqn_44 (k := 2012) qh_cL_law rfl rfl
theorem dL_law_251 : decode cL_law 251 = .ok (.aload_n 0, 1) := dqn_42 (k := 2011) qh_cL_law rfl rfl
theorem dL_law_252 : decode cL_law 252 = .ok (.iload_n 3, 1) := dqn_29 (k := 2010) qh_cL_law rfl rfl
theorem dL_law_253 : decode cL_law 253 = .ok (.iconst 1, 1) := dqn_4 (k := 2009) qh_cL_law rfl rfl
theorem dL_law_254 : decode cL_law 254 = .ok (.iadd, 1) := dqn_96 (k := 2008) qh_cL_law rfl rfl
theorem dL_law_255 : decode cL_law 255 = .ok (.iaload, 1) := dqn_46 (k := 2007) qh_cL_law rfl rfl
theorem dL_law_256 : decode cL_law 256 = .ok (.aload_n 0, 1) := dqn_42 (k := 2006) qh_cL_law rfl rfl
theorem dL_law_257 : decode cL_law 257 = .ok (.iload_n 3, 1) := dqn_29 (k := 2005) qh_cL_law rfl rfl
theorem dL_law_258 : decode cL_law 258 = .ok (.iconst 2, 1) := dqn_5 (k := 2004) qh_cL_law rfl rfl
theorem dL_law_259 : decode cL_law 259 = .ok (.iadd, 1) := dqn_96 (k := 2003) qh_cL_law rfl rfl
theorem dL_law_260 : decode cL_law 260 = .ok (.iaload, 1) := dqn_46 (k := 2002) qh_cL_law rfl rfl
theorem dL_law_261 : decode cL_law 261 = .ok (.aload_n 0, 1) := dqn_42 (k := 2001) qh_cL_law rfl rfl
theorem dL_law_262 : decode cL_law 262 = .ok (.iload_n 3, 1) := dqn_29 (k := 2000) qh_cL_law rfl rfl
theorem dL_law_263 : decode cL_law 263 = .ok (.iconst 3, 1) := dqn_6 (k := 1999) qh_cL_law rfl rfl
theorem dL_law_264 : decode cL_law 264 = .ok (.iadd, 1) := dqn_96 (k := 1998) qh_cL_law rfl rfl
theorem dL_law_265 : decode cL_law 265 = .ok (.iaload, 1) := dqn_46 (k := 1997) qh_cL_law rfl rfl
theorem dL_law_266 : decode cL_law 266 = .ok (.aload_n 0, 1) := dqn_42 (k := 1996) qh_cL_law rfl rfl
theorem dL_law_267 : decode cL_law 267 = .ok (.iload_n 3, 1) := dqn_29 (k := 1995) qh_cL_law rfl rfl
theorem dL_law_268 : decode cL_law 268 = .ok (.iconst 4, 1) := dqn_7 (k := 1994) qh_cL_law rfl rfl
theorem dL_law_269 : decode cL_law 269 = .ok (.iadd, 1) := dqn_96 (k := 1993) qh_cL_law rfl rfl
theorem dL_law_270 : decode cL_law 270 = .ok (.iaload, 1) := dqn_46 (k := 1992) qh_cL_law rfl rfl
theorem dL_law_271 : decode cL_law 271 = .ok (.aload_n 0, 1) := dqn_42 (k := 1991) qh_cL_law rfl rfl
theorem dL_law_272 : decode cL_law 272 = .ok (.iload_n 3, 1) := dqn_29 (k := 1990) qh_cL_law rfl rfl
theorem dL_law_273 : decode cL_law 273 = .ok (.iconst 5, 1) := dqn_8 (k := 1989) qh_cL_law rfl rfl
theorem dL_law_274 : decode cL_law 274 = .ok (.iadd, 1) := dqn_96 (k := 1988) qh_cL_law rfl rfl
theorem dL_law_275 : decode cL_law 275 = .ok (.iaload, 1) := dqn_46 (k := 1987) qh_cL_law rfl rfl
theorem dL_law_276 : decode cL_law 276 = .ok (.invokevirtual 17, 3) := dqn_182 (k := 1984) qh_cL_law rfl rfl rfl
theorem dL_law_279 : decode cL_law 279 = .ok (.pop, 1) := dqn_87 (k := 1983) qh_cL_law rfl rfl
theorem dL_law_280 : decode cL_law 280 = .ok (.goto 1975, 3) := dqn_167 (k := 1980) (u := 1975) qh_cL_law rfl rfl rfl (sg_p rfl rfl)
theorem dL_law_283 : decode cL_law 283 = .ok (.aload_n 1, 1) := dqn_43 (k := 1979) qh_cL_law rfl rfl
theorem dL_law_284 : decode cL_law 284 = .ok (.aload_n 0, 1) := dqn_42 (k := 1978) qh_cL_law rfl rfl
theorem dL_law_285 : decode cL_law 285 = .ok (.iload_n 3, 1) := dqn_29 (k := 1977) qh_cL_law rfl rfl
theorem dL_law_286 : decode cL_law 286 = .ok (.iconst 1, 1) := dqn_4 (k := 1976) qh_cL_law rfl rfl
theorem dL_law_287 : decode cL_law 287 = .ok (.iadd, 1) := dqn_96 (k := 1975) qh_cL_law rfl rfl
theorem dL_law_288 : decode cL_law 288 = .ok (.iaload, 1) := dqn_46 (k := 1974) qh_cL_law rfl rfl
theorem dL_law_289 : decode cL_law 289 = .ok (.invokevirtual 18, 3) := dqn_182 (k := 1971) qh_cL_law rfl rfl rfl
theorem dL_law_292 : decode cL_law 292 = .ok (.pop, 1) := dqn_87 (k := 1970) qh_cL_law rfl rfl
theorem dL_law_293 : decode cL_law 293 = .ok (.aload_n 2, 1) := dqn_44 (k := 1969) qh_cL_law rfl rfl
theorem dL_law_294 : decode cL_law 294 = .ok (.aload_n 0, 1) := dqn_42 (k := 1968) qh_cL_law rfl rfl
theorem dL_law_295 : decode cL_law 295 = .ok (.iload_n 3, 1) := dqn_29 (k := 1967) qh_cL_law rfl rfl
theorem dL_law_296 : decode cL_law 296 = .ok (.iconst 1, 1) := dqn_4 (k := 1966) qh_cL_law rfl rfl
theorem dL_law_297 : decode cL_law 297 = .ok (.iadd, 1) := dqn_96 (k := 1965) qh_cL_law rfl rfl
theorem dL_law_298 : decode cL_law 298 = .ok (.iaload, 1) := dqn_46 (k := 1964) qh_cL_law rfl rfl
theorem dL_law_299 : decode cL_law 299 = .ok (.invokevirtual 22, 3) := dqn_182 (k := 1961) qh_cL_law rfl rfl rfl
theorem dL_law_302 : decode cL_law 302 = .ok (.pop, 1) := dqn_87 (k := 1960) qh_cL_law rfl rfl
theorem dL_law_303 : decode cL_law 303 = .ok (.goto 1952, 3) := dqn_167 (k := 1957) (u := 1952) qh_cL_law rfl rfl rfl (sg_p rfl rfl)
theorem dL_law_306 : decode cL_law 306 = .ok (.aload_n 1, 1) := dqn_43 (k := 1956) qh_cL_law rfl rfl
theorem dL_law_307 : decode cL_law 307 = .ok (.aload_n 0, 1) := dqn_42 (k := 1955) qh_cL_law rfl rfl
theorem dL_law_308 : decode cL_law 308 = .ok (.iload_n 3, 1) := dqn_29 (k := 1954) qh_cL_law rfl rfl
theorem dL_law_309 : decode cL_law 309 = .ok (.iconst 1, 1) := dqn_4 (k := 1953) qh_cL_law rfl rfl
theorem dL_law_310 : decode cL_law 310 = .ok (.iadd, 1) := dqn_96 (k := 1952) qh_cL_law rfl rfl
theorem dL_law_311 : decode cL_law 311 = .ok (.iaload, 1) := dqn_46 (k := 1951) qh_cL_law rfl rfl
theorem dL_law_312 : decode cL_law 312 = .ok (.aload_n 0, 1) := dqn_42 (k := 1950) qh_cL_law rfl rfl
theorem dL_law_313 : decode cL_law 313 = .ok (.iload_n 3, 1) := dqn_29 (k := 1949) qh_cL_law rfl rfl
theorem dL_law_314 : decode cL_law 314 = .ok (.iconst 2, 1) := dqn_5 (k := 1948) qh_cL_law rfl rfl
theorem dL_law_315 : decode cL_law 315 = .ok (.iadd, 1) := dqn_96 (k := 1947) qh_cL_law rfl rfl
theorem dL_law_316 : decode cL_law 316 = .ok (.iaload, 1) := dqn_46 (k := 1946) qh_cL_law rfl rfl
theorem dL_law_317 : decode cL_law 317 = .ok (.invokevirtual 23, 3) := dqn_182 (k := 1943) qh_cL_law rfl rfl rfl
theorem dL_law_320 : decode cL_law 320 = .ok (.pop, 1) := dqn_87 (k := 1942) qh_cL_law rfl rfl
theorem dL_law_321 : decode cL_law 321 = .ok (.aload_n 2, 1) := dqn_44 (k := 1941) qh_cL_law rfl rfl
theorem dL_law_322 : decode cL_law 322 = .ok (.aload_n 0, 1) := dqn_42 (k := 1940) qh_cL_law rfl rfl
theorem dL_law_323 : decode cL_law 323 = .ok (.iload_n 3, 1) := dqn_29 (k := 1939) qh_cL_law rfl rfl
theorem dL_law_324 : decode cL_law 324 = .ok (.iconst 1, 1) := dqn_4 (k := 1938) qh_cL_law rfl rfl
theorem dL_law_325 : decode cL_law 325 = .ok (.iadd, 1) := dqn_96 (k := 1937) qh_cL_law rfl rfl
theorem dL_law_326 : decode cL_law 326 = .ok (.iaload, 1) := dqn_46 (k := 1936) qh_cL_law rfl rfl
theorem dL_law_327 : decode cL_law 327 = .ok (.aload_n 0, 1) := dqn_42 (k := 1935) qh_cL_law rfl rfl
theorem dL_law_328 : decode cL_law 328 = .ok (.iload_n 3, 1) := dqn_29 (k := 1934) qh_cL_law rfl rfl
theorem dL_law_329 : decode cL_law 329 = .ok (.iconst 2, 1) := dqn_5 (k := 1933) qh_cL_law rfl rfl
theorem dL_law_330 : decode cL_law 330 = .ok (.iadd, 1) := dqn_96 (k := 1932) qh_cL_law rfl rfl
theorem dL_law_331 : decode cL_law 331 = .ok (.iaload, 1) := dqn_46 (k := 1931) qh_cL_law rfl rfl
theorem dL_law_332 : decode cL_law 332 = .ok (.invokevirtual 27, 3) := dqn_182 (k := 1928) qh_cL_law rfl rfl rfl
theorem dL_law_335 : decode cL_law 335 = .ok (.pop, 1) := dqn_87 (k := 1927) qh_cL_law rfl rfl
theorem dL_law_336 : decode cL_law 336 = .ok (.goto 1919, 3) := dqn_167 (k := 1924) (u := 1919) qh_cL_law rfl rfl rfl (sg_p rfl rfl)
theorem dL_law_339 : decode cL_law 339 = .ok (.aload_n 1, 1) := dqn_43 (k := 1923) qh_cL_law rfl rfl
theorem dL_law_340 : decode cL_law 340 = .ok (.aload_n 0, 1) := dqn_42 (k := 1922) qh_cL_law rfl rfl
theorem dL_law_341 : decode cL_law 341 = .ok (.iload_n 3, 1) := dqn_29 (k := 1921) qh_cL_law rfl rfl
theorem dL_law_342 : decode cL_law 342 = .ok (.iconst 1, 1) := dqn_4 (k := 1920) qh_cL_law rfl rfl
theorem dL_law_343 : decode cL_law 343 = .ok (.iadd, 1) := dqn_96 (k := 1919) qh_cL_law rfl rfl
theorem dL_law_344 : decode cL_law 344 = .ok (.iaload, 1) := dqn_46 (k := 1918) qh_cL_law rfl rfl
theorem dL_law_345 : decode cL_law 345 = .ok (.invokevirtual 28, 3) := dqn_182 (k := 1915) qh_cL_law rfl rfl rfl
theorem dL_law_348 : decode cL_law 348 = .ok (.pop, 1) := dqn_87 (k := 1914) qh_cL_law rfl rfl
theorem dL_law_349 : decode cL_law 349 = .ok (.aload_n 2, 1) := dqn_44 (k := 1913) qh_cL_law rfl rfl
theorem dL_law_350 : decode cL_law 350 = .ok (.aload_n 0, 1) := dqn_42 (k := 1912) qh_cL_law rfl rfl
theorem dL_law_351 : decode cL_law 351 = .ok (.iload_n 3, 1) := dqn_29 (k := 1911) qh_cL_law rfl rfl
theorem dL_law_352 : decode cL_law 352 = .ok (.iconst 1, 1) := dqn_4 (k := 1910) qh_cL_law rfl rfl
theorem dL_law_353 : decode cL_law 353 = .ok (.iadd, 1) := dqn_96 (k := 1909) qh_cL_law rfl rfl
theorem dL_law_354 : decode cL_law 354 = .ok (.iaload, 1) := dqn_46 (k := 1908) qh_cL_law rfl rfl
theorem dL_law_355 : decode cL_law 355 = .ok (.invokevirtual 31, 3) := dqn_182 (k := 1905) qh_cL_law rfl rfl rfl
theorem dL_law_358 : decode cL_law 358 = .ok (.pop, 1) := dqn_87 (k := 1904) qh_cL_law rfl rfl
theorem dL_law_359 : decode cL_law 359 = .ok (.goto 1896, 3) := dqn_167 (k := 1901) (u := 1896) qh_cL_law rfl rfl rfl (sg_p rfl rfl)
theorem dL_law_362 : decode cL_law 362 = .ok (.aload_n 1, 1) := dqn_43 (k := 1900) qh_cL_law rfl rfl
theorem dL_law_363 : decode cL_law 363 = .ok (.aload_n 0, 1) := dqn_42 (k := 1899) qh_cL_law rfl rfl
theorem dL_law_364 : decode cL_law 364 = .ok (.iload_n 3, 1) := dqn_29 (k := 1898) qh_cL_law rfl rfl
theorem dL_law_365 : decode cL_law 365 = .ok (.iconst 1, 1) := dqn_4 (k := 1897) qh_cL_law rfl rfl
theorem dL_law_366 : decode cL_law 366 = .ok (.iadd, 1) := dqn_96 (k := 1896) qh_cL_law rfl rfl
theorem dL_law_367 : decode cL_law 367 = .ok (.iaload, 1) := dqn_46 (k := 1895) qh_cL_law rfl rfl
theorem dL_law_368 : decode cL_law 368 = .ok (.aload_n 0, 1) := dqn_42 (k := 1894) qh_cL_law rfl rfl
theorem dL_law_369 : decode cL_law 369 = .ok (.iload_n 3, 1) := dqn_29 (k := 1893) qh_cL_law rfl rfl
theorem dL_law_370 : decode cL_law 370 = .ok (.iconst 2, 1) := dqn_5 (k := 1892) qh_cL_law rfl rfl
theorem dL_law_371 : decode cL_law 371 = .ok (.iadd, 1) := dqn_96 (k := 1891) qh_cL_law rfl rfl
theorem dL_law_372 : decode cL_law 372 = .ok (.iaload, 1) := dqn_46 (k := 1890) qh_cL_law rfl rfl
theorem dL_law_373 : decode cL_law 373 = .ok (.invokevirtual 32, 3) := dqn_182 (k := 1887) qh_cL_law rfl rfl rfl
theorem dL_law_376 : decode cL_law 376 = .ok (.pop, 1) := dqn_87 (k := 1886) qh_cL_law rfl rfl
theorem dL_law_377 : decode cL_law 377 = .ok (.aload_n 2, 1) := dqn_44 (k := 1885) qh_cL_law rfl rfl
theorem dL_law_378 : decode cL_law 378 = .ok (.aload_n 0, 1) := dqn_42 (k := 1884) qh_cL_law rfl rfl
theorem dL_law_379 : decode cL_law 379 = .ok (.iload_n 3, 1) := dqn_29 (k := 1883) qh_cL_law rfl rfl
theorem dL_law_380 : decode cL_law 380 = .ok (.iconst 1, 1) := dqn_4 (k := 1882) qh_cL_law rfl rfl
theorem dL_law_381 : decode cL_law 381 = .ok (.iadd, 1) := dqn_96 (k := 1881) qh_cL_law rfl rfl
theorem dL_law_382 : decode cL_law 382 = .ok (.iaload, 1) := dqn_46 (k := 1880) qh_cL_law rfl rfl
theorem dL_law_383 : decode cL_law 383 = .ok (.aload_n 0, 1) := dqn_42 (k := 1879) qh_cL_law rfl rfl
theorem dL_law_384 : decode cL_law 384 = .ok (.iload_n 3, 1) := dqn_29 (k := 1878) qh_cL_law rfl rfl
theorem dL_law_385 : decode cL_law 385 = .ok (.iconst 2, 1) := dqn_5 (k := 1877) qh_cL_law rfl rfl
theorem dL_law_386 : decode cL_law 386 = .ok (.iadd, 1) := dqn_96 (k := 1876) qh_cL_law rfl rfl
theorem dL_law_387 : decode cL_law 387 = .ok (.iaload, 1) := dqn_46 (k := 1875) qh_cL_law rfl rfl
theorem dL_law_388 : decode cL_law 388 = .ok (.invokevirtual 35, 3) := dqn_182 (k := 1872) qh_cL_law rfl rfl rfl
theorem dL_law_391 : decode cL_law 391 = .ok (.pop, 1) := dqn_87 (k := 1871) qh_cL_law rfl rfl
theorem dL_law_392 : decode cL_law 392 = .ok (.goto 1863, 3) := dqn_167 (k := 1868) (u := 1863) qh_cL_law rfl rfl rfl (sg_p rfl rfl)
theorem dL_law_395 : decode cL_law 395 = .ok (.aload_n 1, 1) := dqn_43 (k := 1867) qh_cL_law rfl rfl
theorem dL_law_396 : decode cL_law 396 = .ok (.aload_n 0, 1) := dqn_42 (k := 1866) qh_cL_law rfl rfl
theorem dL_law_397 : decode cL_law 397 = .ok (.iload_n 3, 1) := dqn_29 (k := 1865) qh_cL_law rfl rfl
theorem dL_law_398 : decode cL_law 398 = .ok (.iconst 1, 1) := dqn_4 (k := 1864) qh_cL_law rfl rfl
theorem dL_law_399 : decode cL_law 399 = .ok (.iadd, 1) := dqn_96 (k := 1863) qh_cL_law rfl rfl
theorem dL_law_400 : decode cL_law 400 = .ok (.iaload, 1) := dqn_46 (k := 1862) qh_cL_law rfl rfl
theorem dL_law_401 : decode cL_law 401 = .ok (.aload_n 0, 1) := dqn_42 (k := 1861) qh_cL_law rfl rfl
theorem dL_law_402 : decode cL_law 402 = .ok (.iload_n 3, 1) := dqn_29 (k := 1860) qh_cL_law rfl rfl
theorem dL_law_403 : decode cL_law 403 = .ok (.iconst 2, 1) := dqn_5 (k := 1859) qh_cL_law rfl rfl
theorem dL_law_404 : decode cL_law 404 = .ok (.iadd, 1) := dqn_96 (k := 1858) qh_cL_law rfl rfl
theorem dL_law_405 : decode cL_law 405 = .ok (.iaload, 1) := dqn_46 (k := 1857) qh_cL_law rfl rfl
theorem dL_law_406 : decode cL_law 406 = .ok (.aload_n 0, 1) := dqn_42 (k := 1856) qh_cL_law rfl rfl
theorem dL_law_407 : decode cL_law 407 = .ok (.iload_n 3, 1) := dqn_29 (k := 1855) qh_cL_law rfl rfl
theorem dL_law_408 : decode cL_law 408 = .ok (.iconst 3, 1) := dqn_6 (k := 1854) qh_cL_law rfl rfl
theorem dL_law_409 : decode cL_law 409 = .ok (.iadd, 1) := dqn_96 (k := 1853) qh_cL_law rfl rfl
theorem dL_law_410 : decode cL_law 410 = .ok (.iaload, 1) := dqn_46 (k := 1852) qh_cL_law rfl rfl
theorem dL_law_411 : decode cL_law 411 = .ok (.aload_n 0, 1) := dqn_42 (k := 1851) qh_cL_law rfl rfl
theorem dL_law_412 : decode cL_law 412 = .ok (.iload_n 3, 1) := dqn_29 (k := 1850) qh_cL_law rfl rfl
theorem dL_law_413 : decode cL_law 413 = .ok (.iconst 4, 1) := dqn_7 (k := 1849) qh_cL_law rfl rfl
theorem dL_law_414 : decode cL_law 414 = .ok (.iadd, 1) := dqn_96 (k := 1848) qh_cL_law rfl rfl
theorem dL_law_415 : decode cL_law 415 = .ok (.iaload, 1) := dqn_46 (k := 1847) qh_cL_law rfl rfl
theorem dL_law_416 : decode cL_law 416 = .ok (.invokevirtual 36, 3) := dqn_182 (k := 1844) qh_cL_law rfl rfl rfl
theorem dL_law_419 : decode cL_law 419 = .ok (.pop, 1) := dqn_87 (k := 1843) qh_cL_law rfl rfl
theorem dL_law_420 : decode cL_law 420 = .ok (.aload_n 2, 1) := dqn_44 (k := 1842) qh_cL_law rfl rfl
theorem dL_law_421 : decode cL_law 421 = .ok (.aload_n 0, 1) := dqn_42 (k := 1841) qh_cL_law rfl rfl
theorem dL_law_422 : decode cL_law 422 = .ok (.iload_n 3, 1) := dqn_29 (k := 1840) qh_cL_law rfl rfl
theorem dL_law_423 : decode cL_law 423 = .ok (.iconst 1, 1) := dqn_4 (k := 1839) qh_cL_law rfl rfl
theorem dL_law_424 : decode cL_law 424 = .ok (.iadd, 1) := dqn_96 (k := 1838) qh_cL_law rfl rfl
theorem dL_law_425 : decode cL_law 425 = .ok (.iaload, 1) := dqn_46 (k := 1837) qh_cL_law rfl rfl
theorem dL_law_426 : decode cL_law 426 = .ok (.aload_n 0, 1) := dqn_42 (k := 1836) qh_cL_law rfl rfl
theorem dL_law_427 : decode cL_law 427 = .ok (.iload_n 3, 1) := dqn_29 (k := 1835) qh_cL_law rfl rfl
theorem dL_law_428 : decode cL_law 428 = .ok (.iconst 2, 1) := dqn_5 (k := 1834) qh_cL_law rfl rfl
theorem dL_law_429 : decode cL_law 429 = .ok (.iadd, 1) := dqn_96 (k := 1833) qh_cL_law rfl rfl
theorem dL_law_430 : decode cL_law 430 = .ok (.iaload, 1) := dqn_46 (k := 1832) qh_cL_law rfl rfl
theorem dL_law_431 : decode cL_law 431 = .ok (.aload_n 0, 1) := dqn_42 (k := 1831) qh_cL_law rfl rfl
theorem dL_law_432 : decode cL_law 432 = .ok (.iload_n 3, 1) := dqn_29 (k := 1830) qh_cL_law rfl rfl
theorem dL_law_433 : decode cL_law 433 = .ok (.iconst 3, 1) := dqn_6 (k := 1829) qh_cL_law rfl rfl
theorem dL_law_434 : decode cL_law 434 = .ok (.iadd, 1) := dqn_96 (k := 1828) qh_cL_law rfl rfl
theorem dL_law_435 : decode cL_law 435 = .ok (.iaload, 1) := dqn_46 (k := 1827) qh_cL_law rfl rfl
theorem dL_law_436 : decode cL_law 436 = .ok (.aload_n 0, 1) := dqn_42 (k := 1826) qh_cL_law rfl rfl
theorem dL_law_437 : decode cL_law 437 = .ok (.iload_n 3, 1) := dqn_29 (k := 1825) qh_cL_law rfl rfl
theorem dL_law_438 : decode cL_law 438 = .ok (.iconst 4, 1) := dqn_7 (k := 1824) qh_cL_law rfl rfl
theorem dL_law_439 : decode cL_law 439 = .ok (.iadd, 1) := dqn_96 (k := 1823) qh_cL_law rfl rfl
theorem dL_law_440 : decode cL_law 440 = .ok (.iaload, 1) := dqn_46 (k := 1822) qh_cL_law rfl rfl
theorem dL_law_441 : decode cL_law 441 = .ok (.invokevirtual 40, 3) := dqn_182 (k := 1819) qh_cL_law rfl rfl rfl
theorem dL_law_444 : decode cL_law 444 = .ok (.pop, 1) := dqn_87 (k := 1818) qh_cL_law rfl rfl
theorem dL_law_445 : decode cL_law 445 = .ok (.goto 1810, 3) := dqn_167 (k := 1815) (u := 1810) qh_cL_law rfl rfl rfl (sg_p rfl rfl)
theorem dL_law_448 : decode cL_law 448 = .ok (.aload_n 1, 1) := dqn_43 (k := 1814) qh_cL_law rfl rfl
theorem dL_law_449 : decode cL_law 449 = .ok (.aload_n 0, 1) := dqn_42 (k := 1813) qh_cL_law rfl rfl
theorem dL_law_450 : decode cL_law 450 = .ok (.iload_n 3, 1) := dqn_29 (k := 1812) qh_cL_law rfl rfl
theorem dL_law_451 : decode cL_law 451 = .ok (.iconst 1, 1) := dqn_4 (k := 1811) qh_cL_law rfl rfl
theorem dL_law_452 : decode cL_law 452 = .ok (.iadd, 1) := dqn_96 (k := 1810) qh_cL_law rfl rfl
theorem dL_law_453 : decode cL_law 453 = .ok (.iaload, 1) := dqn_46 (k := 1809) qh_cL_law rfl rfl
theorem dL_law_454 : decode cL_law 454 = .ok (.aload_n 0, 1) := dqn_42 (k := 1808) qh_cL_law rfl rfl
theorem dL_law_455 : decode cL_law 455 = .ok (.iload_n 3, 1) := dqn_29 (k := 1807) qh_cL_law rfl rfl
theorem dL_law_456 : decode cL_law 456 = .ok (.iconst 2, 1) := dqn_5 (k := 1806) qh_cL_law rfl rfl
theorem dL_law_457 : decode cL_law 457 = .ok (.iadd, 1) := dqn_96 (k := 1805) qh_cL_law rfl rfl
theorem dL_law_458 : decode cL_law 458 = .ok (.iaload, 1) := dqn_46 (k := 1804) qh_cL_law rfl rfl
theorem dL_law_459 : decode cL_law 459 = .ok (.aload_n 0, 1) := dqn_42 (k := 1803) qh_cL_law rfl rfl
theorem dL_law_460 : decode cL_law 460 = .ok (.iload_n 3, 1) := dqn_29 (k := 1802) qh_cL_law rfl rfl
theorem dL_law_461 : decode cL_law 461 = .ok (.iconst 3, 1) := dqn_6 (k := 1801) qh_cL_law rfl rfl
theorem dL_law_462 : decode cL_law 462 = .ok (.iadd, 1) := dqn_96 (k := 1800) qh_cL_law rfl rfl
theorem dL_law_463 : decode cL_law 463 = .ok (.iaload, 1) := dqn_46 (k := 1799) qh_cL_law rfl rfl
theorem dL_law_464 : decode cL_law 464 = .ok (.invokevirtual 41, 3) := dqn_182 (k := 1796) qh_cL_law rfl rfl rfl
theorem dL_law_467 : decode cL_law 467 = .ok (.pop, 1) := dqn_87 (k := 1795) qh_cL_law rfl rfl
theorem dL_law_468 : decode cL_law 468 = .ok (.aload_n 2, 1) := dqn_44 (k := 1794) qh_cL_law rfl rfl
theorem dL_law_469 : decode cL_law 469 = .ok (.aload_n 0, 1) := dqn_42 (k := 1793) qh_cL_law rfl rfl
theorem dL_law_470 : decode cL_law 470 = .ok (.iload_n 3, 1) := dqn_29 (k := 1792) qh_cL_law rfl rfl
theorem dL_law_471 : decode cL_law 471 = .ok (.iconst 1, 1) := dqn_4 (k := 1791) qh_cL_law rfl rfl
theorem dL_law_472 : decode cL_law 472 = .ok (.iadd, 1) := dqn_96 (k := 1790) qh_cL_law rfl rfl
theorem dL_law_473 : decode cL_law 473 = .ok (.iaload, 1) := dqn_46 (k := 1789) qh_cL_law rfl rfl
theorem dL_law_474 : decode cL_law 474 = .ok (.aload_n 0, 1) := dqn_42 (k := 1788) qh_cL_law rfl rfl
theorem dL_law_475 : decode cL_law 475 = .ok (.iload_n 3, 1) := dqn_29 (k := 1787) qh_cL_law rfl rfl
theorem dL_law_476 : decode cL_law 476 = .ok (.iconst 2, 1) := dqn_5 (k := 1786) qh_cL_law rfl rfl
theorem dL_law_477 : decode cL_law 477 = .ok (.iadd, 1) := dqn_96 (k := 1785) qh_cL_law rfl rfl
theorem dL_law_478 : decode cL_law 478 = .ok (.iaload, 1) := dqn_46 (k := 1784) qh_cL_law rfl rfl
theorem dL_law_479 : decode cL_law 479 = .ok (.aload_n 0, 1) := dqn_42 (k := 1783) qh_cL_law rfl rfl
theorem dL_law_480 : decode cL_law 480 = .ok (.iload_n 3, 1) := dqn_29 (k := 1782) qh_cL_law rfl rfl
theorem dL_law_481 : decode cL_law 481 = .ok (.iconst 3, 1) := dqn_6 (k := 1781) qh_cL_law rfl rfl
theorem dL_law_482 : decode cL_law 482 = .ok (.iadd, 1) := dqn_96 (k := 1780) qh_cL_law rfl rfl
theorem dL_law_483 : decode cL_law 483 = .ok (.iaload, 1) := dqn_46 (k := 1779) qh_cL_law rfl rfl
theorem dL_law_484 : decode cL_law 484 = .ok (.invokevirtual 45, 3) := dqn_182 (k := 1776) qh_cL_law rfl rfl rfl
theorem dL_law_487 : decode cL_law 487 = .ok (.pop, 1) := dqn_87 (k := 1775) qh_cL_law rfl rfl
theorem dL_law_488 : decode cL_law 488 = .ok (.goto 1767, 3) := dqn_167 (k := 1772) (u := 1767) qh_cL_law rfl rfl rfl (sg_p rfl rfl)
theorem dL_law_491 : decode cL_law 491 = .ok (.aload_n 1, 1) := dqn_43 (k := 1771) qh_cL_law rfl rfl
theorem dL_law_492 : decode cL_law 492 = .ok (.aload_n 0, 1) := dqn_42 (k := 1770) qh_cL_law rfl rfl
theorem dL_law_493 : decode cL_law 493 = .ok (.iload_n 3, 1) := dqn_29 (k := 1769) qh_cL_law rfl rfl
theorem dL_law_494 : decode cL_law 494 = .ok (.iconst 1, 1) := dqn_4 (k := 1768) qh_cL_law rfl rfl
theorem dL_law_495 : decode cL_law 495 = .ok (.iadd, 1) := dqn_96 (k := 1767) qh_cL_law rfl rfl
theorem dL_law_496 : decode cL_law 496 = .ok (.iaload, 1) := dqn_46 (k := 1766) qh_cL_law rfl rfl
theorem dL_law_497 : decode cL_law 497 = .ok (.aload_n 0, 1) := dqn_42 (k := 1765) qh_cL_law rfl rfl
theorem dL_law_498 : decode cL_law 498 = .ok (.iload_n 3, 1) := dqn_29 (k := 1764) qh_cL_law rfl rfl
theorem dL_law_499 : decode cL_law 499 = .ok (.iconst 2, 1) := dqn_5 (k := 1763) qh_cL_law rfl rfl
theorem dL_law_500 : decode cL_law 500 = .ok (.iadd, 1) := dqn_96 (k := 1762) qh_cL_law rfl rfl
theorem dL_law_501 : decode cL_law 501 = .ok (.iaload, 1) := dqn_46 (k := 1761) qh_cL_law rfl rfl
theorem dL_law_502 : decode cL_law 502 = .ok (.aload_n 0, 1) := dqn_42 (k := 1760) qh_cL_law rfl rfl
theorem dL_law_503 : decode cL_law 503 = .ok (.iload_n 3, 1) := dqn_29 (k := 1759) qh_cL_law rfl rfl
theorem dL_law_504 : decode cL_law 504 = .ok (.iconst 3, 1) := dqn_6 (k := 1758) qh_cL_law rfl rfl
theorem dL_law_505 : decode cL_law 505 = .ok (.iadd, 1) := dqn_96 (k := 1757) qh_cL_law rfl rfl
theorem dL_law_506 : decode cL_law 506 = .ok (.iaload, 1) := dqn_46 (k := 1756) qh_cL_law rfl rfl
theorem dL_law_507 : decode cL_law 507 = .ok (.invokevirtual 46, 3) := dqn_182 (k := 1753) qh_cL_law rfl rfl rfl
theorem dL_law_510 : decode cL_law 510 = .ok (.pop, 1) := dqn_87 (k := 1752) qh_cL_law rfl rfl
theorem dL_law_511 : decode cL_law 511 = .ok (.aload_n 2, 1) := dqn_44 (k := 1751) qh_cL_law rfl rfl
theorem dL_law_512 : decode cL_law 512 = .ok (.aload_n 0, 1) := dqn_42 (k := 1750) qh_cL_law rfl rfl
theorem dL_law_513 : decode cL_law 513 = .ok (.iload_n 3, 1) := dqn_29 (k := 1749) qh_cL_law rfl rfl
theorem dL_law_514 : decode cL_law 514 = .ok (.iconst 1, 1) := dqn_4 (k := 1748) qh_cL_law rfl rfl
theorem dL_law_515 : decode cL_law 515 = .ok (.iadd, 1) := dqn_96 (k := 1747) qh_cL_law rfl rfl
theorem dL_law_516 : decode cL_law 516 = .ok (.iaload, 1) := dqn_46 (k := 1746) qh_cL_law rfl rfl
theorem dL_law_517 : decode cL_law 517 = .ok (.aload_n 0, 1) := dqn_42 (k := 1745) qh_cL_law rfl rfl
theorem dL_law_518 : decode cL_law 518 = .ok (.iload_n 3, 1) := dqn_29 (k := 1744) qh_cL_law rfl rfl
theorem dL_law_519 : decode cL_law 519 = .ok (.iconst 2, 1) := dqn_5 (k := 1743) qh_cL_law rfl rfl
theorem dL_law_520 : decode cL_law 520 = .ok (.iadd, 1) := dqn_96 (k := 1742) qh_cL_law rfl rfl
theorem dL_law_521 : decode cL_law 521 = .ok (.iaload, 1) := dqn_46 (k := 1741) qh_cL_law rfl rfl
theorem dL_law_522 : decode cL_law 522 = .ok (.aload_n 0, 1) := dqn_42 (k := 1740) qh_cL_law rfl rfl
theorem dL_law_523 : decode cL_law 523 = .ok (.iload_n 3, 1) := dqn_29 (k := 1739) qh_cL_law rfl rfl
theorem dL_law_524 : decode cL_law 524 = .ok (.iconst 3, 1) := dqn_6 (k := 1738) qh_cL_law rfl rfl
theorem dL_law_525 : decode cL_law 525 = .ok (.iadd, 1) := dqn_96 (k := 1737) qh_cL_law rfl rfl
theorem dL_law_526 : decode cL_law 526 = .ok (.iaload, 1) := dqn_46 (k := 1736) qh_cL_law rfl rfl
theorem dL_law_527 : decode cL_law 527 = .ok (.invokevirtual 49, 3) := dqn_182 (k := 1733) qh_cL_law rfl rfl rfl
theorem dL_law_530 : decode cL_law 530 = .ok (.pop, 1) := dqn_87 (k := 1732) qh_cL_law rfl rfl
theorem dL_law_531 : decode cL_law 531 = .ok (.goto 1724, 3) := dqn_167 (k := 1729) (u := 1724) qh_cL_law rfl rfl rfl (sg_p rfl rfl)
theorem dL_law_534 : decode cL_law 534 = .ok (.aload_n 1, 1) := dqn_43 (k := 1728) qh_cL_law rfl rfl
theorem dL_law_535 : decode cL_law 535 = .ok (.aload_n 0, 1) := dqn_42 (k := 1727) qh_cL_law rfl rfl
theorem dL_law_536 : decode cL_law 536 = .ok (.iload_n 3, 1) := dqn_29 (k := 1726) qh_cL_law rfl rfl
theorem dL_law_537 : decode cL_law 537 = .ok (.iconst 1, 1) := dqn_4 (k := 1725) qh_cL_law rfl rfl
theorem dL_law_538 : decode cL_law 538 = .ok (.iadd, 1) := dqn_96 (k := 1724) qh_cL_law rfl rfl
theorem dL_law_539 : decode cL_law 539 = .ok (.iaload, 1) := dqn_46 (k := 1723) qh_cL_law rfl rfl
theorem dL_law_540 : decode cL_law 540 = .ok (.aload_n 0, 1) := dqn_42 (k := 1722) qh_cL_law rfl rfl
theorem dL_law_541 : decode cL_law 541 = .ok (.iload_n 3, 1) := dqn_29 (k := 1721) qh_cL_law rfl rfl
theorem dL_law_542 : decode cL_law 542 = .ok (.iconst 2, 1) := dqn_5 (k := 1720) qh_cL_law rfl rfl
theorem dL_law_543 : decode cL_law 543 = .ok (.iadd, 1) := dqn_96 (k := 1719) qh_cL_law rfl rfl
theorem dL_law_544 : decode cL_law 544 = .ok (.iaload, 1) := dqn_46 (k := 1718) qh_cL_law rfl rfl
theorem dL_law_545 : decode cL_law 545 = .ok (.aload_n 0, 1) := dqn_42 (k := 1717) qh_cL_law rfl rfl
theorem dL_law_546 : decode cL_law 546 = .ok (.iload_n 3, 1) := dqn_29 (k := 1716) qh_cL_law rfl rfl
theorem dL_law_547 : decode cL_law 547 = .ok (.iconst 3, 1) := dqn_6 (k := 1715) qh_cL_law rfl rfl
theorem dL_law_548 : decode cL_law 548 = .ok (.iadd, 1) := dqn_96 (k := 1714) qh_cL_law rfl rfl
theorem dL_law_549 : decode cL_law 549 = .ok (.iaload, 1) := dqn_46 (k := 1713) qh_cL_law rfl rfl
theorem dL_law_550 : decode cL_law 550 = .ok (.aload_n 0, 1) := dqn_42 (k := 1712) qh_cL_law rfl rfl
theorem dL_law_551 : decode cL_law 551 = .ok (.iload_n 3, 1) := dqn_29 (k := 1711) qh_cL_law rfl rfl
theorem dL_law_552 : decode cL_law 552 = .ok (.iconst 4, 1) := dqn_7 (k := 1710) qh_cL_law rfl rfl
theorem dL_law_553 : decode cL_law 553 = .ok (.iadd, 1) := dqn_96 (k := 1709) qh_cL_law rfl rfl
theorem dL_law_554 : decode cL_law 554 = .ok (.iaload, 1) := dqn_46 (k := 1708) qh_cL_law rfl rfl
theorem dL_law_555 : decode cL_law 555 = .ok (.aload_n 0, 1) := dqn_42 (k := 1707) qh_cL_law rfl rfl
theorem dL_law_556 : decode cL_law 556 = .ok (.iload_n 3, 1) := dqn_29 (k := 1706) qh_cL_law rfl rfl
theorem dL_law_557 : decode cL_law 557 = .ok (.iconst 5, 1) := dqn_8 (k := 1705) qh_cL_law rfl rfl
theorem dL_law_558 : decode cL_law 558 = .ok (.iadd, 1) := dqn_96 (k := 1704) qh_cL_law rfl rfl
theorem dL_law_559 : decode cL_law 559 = .ok (.iaload, 1) := dqn_46 (k := 1703) qh_cL_law rfl rfl
theorem dL_law_560 : decode cL_law 560 = .ok (.invokevirtual 50, 3) := dqn_182 (k := 1700) qh_cL_law rfl rfl rfl
theorem dL_law_563 : decode cL_law 563 = .ok (.pop, 1) := dqn_87 (k := 1699) qh_cL_law rfl rfl
theorem dL_law_564 : decode cL_law 564 = .ok (.aload_n 2, 1) := dqn_44 (k := 1698) qh_cL_law rfl rfl
theorem dL_law_565 : decode cL_law 565 = .ok (.aload_n 0, 1) := dqn_42 (k := 1697) qh_cL_law rfl rfl
theorem dL_law_566 : decode cL_law 566 = .ok (.iload_n 3, 1) := dqn_29 (k := 1696) qh_cL_law rfl rfl
theorem dL_law_567 : decode cL_law 567 = .ok (.iconst 1, 1) := dqn_4 (k := 1695) qh_cL_law rfl rfl
theorem dL_law_568 : decode cL_law 568 = .ok (.iadd, 1) := dqn_96 (k := 1694) qh_cL_law rfl rfl
theorem dL_law_569 : decode cL_law 569 = .ok (.iaload, 1) := dqn_46 (k := 1693) qh_cL_law rfl rfl
theorem dL_law_570 : decode cL_law 570 = .ok (.aload_n 0, 1) := dqn_42 (k := 1692) qh_cL_law rfl rfl
theorem dL_law_571 : decode cL_law 571 = .ok (.iload_n 3, 1) := dqn_29 (k := 1691) qh_cL_law rfl rfl
theorem dL_law_572 : decode cL_law 572 = .ok (.iconst 2, 1) := dqn_5 (k := 1690) qh_cL_law rfl rfl
theorem dL_law_573 : decode cL_law 573 = .ok (.iadd, 1) := dqn_96 (k := 1689) qh_cL_law rfl rfl
theorem dL_law_574 : decode cL_law 574 = .ok (.iaload, 1) := dqn_46 (k := 1688) qh_cL_law rfl rfl
theorem dL_law_575 : decode cL_law 575 = .ok (.aload_n 0, 1) := dqn_42 (k := 1687) qh_cL_law rfl rfl
theorem dL_law_576 : decode cL_law 576 = .ok (.iload_n 3, 1) := dqn_29 (k := 1686) qh_cL_law rfl rfl
theorem dL_law_577 : decode cL_law 577 = .ok (.iconst 3, 1) := dqn_6 (k := 1685) qh_cL_law rfl rfl
theorem dL_law_578 : decode cL_law 578 = .ok (.iadd, 1) := dqn_96 (k := 1684) qh_cL_law rfl rfl
theorem dL_law_579 : decode cL_law 579 = .ok (.iaload, 1) := dqn_46 (k := 1683) qh_cL_law rfl rfl
theorem dL_law_580 : decode cL_law 580 = .ok (.aload_n 0, 1) := dqn_42 (k := 1682) qh_cL_law rfl rfl
theorem dL_law_581 : decode cL_law 581 = .ok (.iload_n 3, 1) := dqn_29 (k := 1681) qh_cL_law rfl rfl
theorem dL_law_582 : decode cL_law 582 = .ok (.iconst 4, 1) := dqn_7 (k := 1680) qh_cL_law rfl rfl
theorem dL_law_583 : decode cL_law 583 = .ok (.iadd, 1) := dqn_96 (k := 1679) qh_cL_law rfl rfl
theorem dL_law_584 : decode cL_law 584 = .ok (.iaload, 1) := dqn_46 (k := 1678) qh_cL_law rfl rfl
theorem dL_law_585 : decode cL_law 585 = .ok (.aload_n 0, 1) := dqn_42 (k := 1677) qh_cL_law rfl rfl
theorem dL_law_586 : decode cL_law 586 = .ok (.iload_n 3, 1) := dqn_29 (k := 1676) qh_cL_law rfl rfl
theorem dL_law_587 : decode cL_law 587 = .ok (.iconst 5, 1) := dqn_8 (k := 1675) qh_cL_law rfl rfl
theorem dL_law_588 : decode cL_law 588 = .ok (.iadd, 1) := dqn_96 (k := 1674) qh_cL_law rfl rfl
theorem dL_law_589 : decode cL_law 589 = .ok (.iaload, 1) := dqn_46 (k := 1673) qh_cL_law rfl rfl
theorem dL_law_590 : decode cL_law 590 = .ok (.invokevirtual 53, 3) := dqn_182 (k := 1670) qh_cL_law rfl rfl rfl
theorem dL_law_593 : decode cL_law 593 = .ok (.pop, 1) := dqn_87 (k := 1669) qh_cL_law rfl rfl
theorem dL_law_594 : decode cL_law 594 = .ok (.goto 1661, 3) := dqn_167 (k := 1666) (u := 1661) qh_cL_law rfl rfl rfl (sg_p rfl rfl)
theorem dL_law_597 : decode cL_law 597 = .ok (.aload_n 1, 1) := dqn_43 (k := 1665) qh_cL_law rfl rfl
theorem dL_law_598 : decode cL_law 598 = .ok (.aload_n 0, 1) := dqn_42 (k := 1664) qh_cL_law rfl rfl
theorem dL_law_599 : decode cL_law 599 = .ok (.iload_n 3, 1) := dqn_29 (k := 1663) qh_cL_law rfl rfl
theorem dL_law_600 : decode cL_law 600 = .ok (.iconst 1, 1) := dqn_4 (k := 1662) qh_cL_law rfl rfl
theorem dL_law_601 : decode cL_law 601 = .ok (.iadd, 1) := dqn_96 (k := 1661) qh_cL_law rfl rfl
theorem dL_law_602 : decode cL_law 602 = .ok (.iaload, 1) := dqn_46 (k := 1660) qh_cL_law rfl rfl
theorem dL_law_603 : decode cL_law 603 = .ok (.aload_n 0, 1) := dqn_42 (k := 1659) qh_cL_law rfl rfl
theorem dL_law_604 : decode cL_law 604 = .ok (.iload_n 3, 1) := dqn_29 (k := 1658) qh_cL_law rfl rfl
theorem dL_law_605 : decode cL_law 605 = .ok (.iconst 2, 1) := dqn_5 (k := 1657) qh_cL_law rfl rfl
theorem dL_law_606 : decode cL_law 606 = .ok (.iadd, 1) := dqn_96 (k := 1656) qh_cL_law rfl rfl
theorem dL_law_607 : decode cL_law 607 = .ok (.iaload, 1) := dqn_46 (k := 1655) qh_cL_law rfl rfl
theorem dL_law_608 : decode cL_law 608 = .ok (.aload_n 0, 1) := dqn_42 (k := 1654) qh_cL_law rfl rfl
theorem dL_law_609 : decode cL_law 609 = .ok (.iload_n 3, 1) := dqn_29 (k := 1653) qh_cL_law rfl rfl
theorem dL_law_610 : decode cL_law 610 = .ok (.iconst 3, 1) := dqn_6 (k := 1652) qh_cL_law rfl rfl
theorem dL_law_611 : decode cL_law 611 = .ok (.iadd, 1) := dqn_96 (k := 1651) qh_cL_law rfl rfl
theorem dL_law_612 : decode cL_law 612 = .ok (.iaload, 1) := dqn_46 (k := 1650) qh_cL_law rfl rfl
theorem dL_law_613 : decode cL_law 613 = .ok (.invokevirtual 54, 3) := dqn_182 (k := 1647) qh_cL_law rfl rfl rfl
theorem dL_law_616 : decode cL_law 616 = .ok (.pop2, 1) := dqn_88 (k := 1646) qh_cL_law rfl rfl
theorem dL_law_617 : decode cL_law 617 = .ok (.aload_n 2, 1) := dqn_44 (k := 1645) qh_cL_law rfl rfl
theorem dL_law_618 : decode cL_law 618 = .ok (.aload_n 0, 1) := dqn_42 (k := 1644) qh_cL_law rfl rfl
theorem dL_law_619 : decode cL_law 619 = .ok (.iload_n 3, 1) := dqn_29 (k := 1643) qh_cL_law rfl rfl
theorem dL_law_620 : decode cL_law 620 = .ok (.iconst 1, 1) := dqn_4 (k := 1642) qh_cL_law rfl rfl
theorem dL_law_621 : decode cL_law 621 = .ok (.iadd, 1) := dqn_96 (k := 1641) qh_cL_law rfl rfl
theorem dL_law_622 : decode cL_law 622 = .ok (.iaload, 1) := dqn_46 (k := 1640) qh_cL_law rfl rfl
theorem dL_law_623 : decode cL_law 623 = .ok (.aload_n 0, 1) := dqn_42 (k := 1639) qh_cL_law rfl rfl
theorem dL_law_624 : decode cL_law 624 = .ok (.iload_n 3, 1) := dqn_29 (k := 1638) qh_cL_law rfl rfl
theorem dL_law_625 : decode cL_law 625 = .ok (.iconst 2, 1) := dqn_5 (k := 1637) qh_cL_law rfl rfl
theorem dL_law_626 : decode cL_law 626 = .ok (.iadd, 1) := dqn_96 (k := 1636) qh_cL_law rfl rfl
theorem dL_law_627 : decode cL_law 627 = .ok (.iaload, 1) := dqn_46 (k := 1635) qh_cL_law rfl rfl
theorem dL_law_628 : decode cL_law 628 = .ok (.aload_n 0, 1) := dqn_42 (k := 1634) qh_cL_law rfl rfl
theorem dL_law_629 : decode cL_law 629 = .ok (.iload_n 3, 1) := dqn_29 (k := 1633) qh_cL_law rfl rfl
theorem dL_law_630 : decode cL_law 630 = .ok (.iconst 3, 1) := dqn_6 (k := 1632) qh_cL_law rfl rfl
theorem dL_law_631 : decode cL_law 631 = .ok (.iadd, 1) := dqn_96 (k := 1631) qh_cL_law rfl rfl
theorem dL_law_632 : decode cL_law 632 = .ok (.iaload, 1) := dqn_46 (k := 1630) qh_cL_law rfl rfl
theorem dL_law_633 : decode cL_law 633 = .ok (.invokevirtual 58, 3) := dqn_182 (k := 1627) qh_cL_law rfl rfl rfl
theorem dL_law_636 : decode cL_law 636 = .ok (.pop2, 1) := dqn_88 (k := 1626) qh_cL_law rfl rfl
theorem dL_law_637 : decode cL_law 637 = .ok (.goto 1618, 3) := dqn_167 (k := 1623) (u := 1618) qh_cL_law rfl rfl rfl (sg_p rfl rfl)
theorem dL_law_640 : decode cL_law 640 = .ok (.aload_n 1, 1) := dqn_43 (k := 1622) qh_cL_law rfl rfl
theorem dL_law_641 : decode cL_law 641 = .ok (.aload_n 0, 1) := dqn_42 (k := 1621) qh_cL_law rfl rfl
theorem dL_law_642 : decode cL_law 642 = .ok (.iload_n 3, 1) := dqn_29 (k := 1620) qh_cL_law rfl rfl
theorem dL_law_643 : decode cL_law 643 = .ok (.iconst 1, 1) := dqn_4 (k := 1619) qh_cL_law rfl rfl
theorem dL_law_644 : decode cL_law 644 = .ok (.iadd, 1) := dqn_96 (k := 1618) qh_cL_law rfl rfl
theorem dL_law_645 : decode cL_law 645 = .ok (.iaload, 1) := dqn_46 (k := 1617) qh_cL_law rfl rfl
theorem dL_law_646 : decode cL_law 646 = .ok (.aload_n 0, 1) := dqn_42 (k := 1616) qh_cL_law rfl rfl
theorem dL_law_647 : decode cL_law 647 = .ok (.iload_n 3, 1) := dqn_29 (k := 1615) qh_cL_law rfl rfl
theorem dL_law_648 : decode cL_law 648 = .ok (.iconst 2, 1) := dqn_5 (k := 1614) qh_cL_law rfl rfl
theorem dL_law_649 : decode cL_law 649 = .ok (.iadd, 1) := dqn_96 (k := 1613) qh_cL_law rfl rfl
theorem dL_law_650 : decode cL_law 650 = .ok (.iaload, 1) := dqn_46 (k := 1612) qh_cL_law rfl rfl
theorem dL_law_651 : decode cL_law 651 = .ok (.aload_n 0, 1) := dqn_42 (k := 1611) qh_cL_law rfl rfl
theorem dL_law_652 : decode cL_law 652 = .ok (.iload_n 3, 1) := dqn_29 (k := 1610) qh_cL_law rfl rfl
theorem dL_law_653 : decode cL_law 653 = .ok (.iconst 3, 1) := dqn_6 (k := 1609) qh_cL_law rfl rfl
theorem dL_law_654 : decode cL_law 654 = .ok (.iadd, 1) := dqn_96 (k := 1608) qh_cL_law rfl rfl
theorem dL_law_655 : decode cL_law 655 = .ok (.iaload, 1) := dqn_46 (k := 1607) qh_cL_law rfl rfl
theorem dL_law_656 : decode cL_law 656 = .ok (.invokevirtual 59, 3) := dqn_182 (k := 1604) qh_cL_law rfl rfl rfl
theorem dL_law_659 : decode cL_law 659 = .ok (.pop2, 1) := dqn_88 (k := 1603) qh_cL_law rfl rfl
theorem dL_law_660 : decode cL_law 660 = .ok (.aload_n 2, 1) := dqn_44 (k := 1602) qh_cL_law rfl rfl
theorem dL_law_661 : decode cL_law 661 = .ok (.aload_n 0, 1) := dqn_42 (k := 1601) qh_cL_law rfl rfl
theorem dL_law_662 : decode cL_law 662 = .ok (.iload_n 3, 1) := dqn_29 (k := 1600) qh_cL_law rfl rfl
theorem dL_law_663 : decode cL_law 663 = .ok (.iconst 1, 1) := dqn_4 (k := 1599) qh_cL_law rfl rfl
theorem dL_law_664 : decode cL_law 664 = .ok (.iadd, 1) := dqn_96 (k := 1598) qh_cL_law rfl rfl
theorem dL_law_665 : decode cL_law 665 = .ok (.iaload, 1) := dqn_46 (k := 1597) qh_cL_law rfl rfl
theorem dL_law_666 : decode cL_law 666 = .ok (.aload_n 0, 1) := dqn_42 (k := 1596) qh_cL_law rfl rfl
theorem dL_law_667 : decode cL_law 667 = .ok (.iload_n 3, 1) := dqn_29 (k := 1595) qh_cL_law rfl rfl
theorem dL_law_668 : decode cL_law 668 = .ok (.iconst 2, 1) := dqn_5 (k := 1594) qh_cL_law rfl rfl
theorem dL_law_669 : decode cL_law 669 = .ok (.iadd, 1) := dqn_96 (k := 1593) qh_cL_law rfl rfl
theorem dL_law_670 : decode cL_law 670 = .ok (.iaload, 1) := dqn_46 (k := 1592) qh_cL_law rfl rfl
theorem dL_law_671 : decode cL_law 671 = .ok (.aload_n 0, 1) := dqn_42 (k := 1591) qh_cL_law rfl rfl
theorem dL_law_672 : decode cL_law 672 = .ok (.iload_n 3, 1) := dqn_29 (k := 1590) qh_cL_law rfl rfl
theorem dL_law_673 : decode cL_law 673 = .ok (.iconst 3, 1) := dqn_6 (k := 1589) qh_cL_law rfl rfl
theorem dL_law_674 : decode cL_law 674 = .ok (.iadd, 1) := dqn_96 (k := 1588) qh_cL_law rfl rfl
theorem dL_law_675 : decode cL_law 675 = .ok (.iaload, 1) := dqn_46 (k := 1587) qh_cL_law rfl rfl
theorem dL_law_676 : decode cL_law 676 = .ok (.invokevirtual 62, 3) := dqn_182 (k := 1584) qh_cL_law rfl rfl rfl
theorem dL_law_679 : decode cL_law 679 = .ok (.pop2, 1) := dqn_88 (k := 1583) qh_cL_law rfl rfl
theorem dL_law_680 : decode cL_law 680 = .ok (.goto 1575, 3) := dqn_167 (k := 1580) (u := 1575) qh_cL_law rfl rfl rfl (sg_p rfl rfl)
theorem dL_law_683 : decode cL_law 683 = .ok (.aload_n 1, 1) := dqn_43 (k := 1579) qh_cL_law rfl rfl
theorem dL_law_684 : decode cL_law 684 = .ok (.aload_n 0, 1) := dqn_42 (k := 1578) qh_cL_law rfl rfl
theorem dL_law_685 : decode cL_law 685 = .ok (.iload_n 3, 1) := dqn_29 (k := 1577) qh_cL_law rfl rfl
theorem dL_law_686 : decode cL_law 686 = .ok (.iconst 1, 1) := dqn_4 (k := 1576) qh_cL_law rfl rfl
theorem dL_law_687 : decode cL_law 687 = .ok (.iadd, 1) := dqn_96 (k := 1575) qh_cL_law rfl rfl
theorem dL_law_688 : decode cL_law 688 = .ok (.iaload, 1) := dqn_46 (k := 1574) qh_cL_law rfl rfl
theorem dL_law_689 : decode cL_law 689 = .ok (.aload_n 0, 1) := dqn_42 (k := 1573) qh_cL_law rfl rfl
theorem dL_law_690 : decode cL_law 690 = .ok (.iload_n 3, 1) := dqn_29 (k := 1572) qh_cL_law rfl rfl
theorem dL_law_691 : decode cL_law 691 = .ok (.iconst 2, 1) := dqn_5 (k := 1571) qh_cL_law rfl rfl
theorem dL_law_692 : decode cL_law 692 = .ok (.iadd, 1) := dqn_96 (k := 1570) qh_cL_law rfl rfl
theorem dL_law_693 : decode cL_law 693 = .ok (.iaload, 1) := dqn_46 (k := 1569) qh_cL_law rfl rfl
theorem dL_law_694 : decode cL_law 694 = .ok (.aload_n 0, 1) := dqn_42 (k := 1568) qh_cL_law rfl rfl
theorem dL_law_695 : decode cL_law 695 = .ok (.iload_n 3, 1) := dqn_29 (k := 1567) qh_cL_law rfl rfl
theorem dL_law_696 : decode cL_law 696 = .ok (.iconst 3, 1) := dqn_6 (k := 1566) qh_cL_law rfl rfl
theorem dL_law_697 : decode cL_law 697 = .ok (.iadd, 1) := dqn_96 (k := 1565) qh_cL_law rfl rfl
theorem dL_law_698 : decode cL_law 698 = .ok (.iaload, 1) := dqn_46 (k := 1564) qh_cL_law rfl rfl
theorem dL_law_699 : decode cL_law 699 = .ok (.ifCond .eq 7, 3) := dqn_153 (k := 1561) (u := 7) qh_cL_law rfl rfl rfl (sg_p rfl rfl)
theorem dL_law_702 : decode cL_law 702 = .ok (.iconst 1, 1) := dqn_4 (k := 1560) qh_cL_law rfl rfl
theorem dL_law_703 : decode cL_law 703 = .ok (.goto 4, 3) := dqn_167 (k := 1557) (u := 4) qh_cL_law rfl rfl rfl (sg_p rfl rfl)
theorem dL_law_706 : decode cL_law 706 = .ok (.iconst 0, 1) := dqn_3 (k := 1556) qh_cL_law rfl rfl
theorem dL_law_707 : decode cL_law 707 = .ok (.invokevirtual 63, 3) := dqn_182 (k := 1553) qh_cL_law rfl rfl rfl
theorem dL_law_710 : decode cL_law 710 = .ok (.pop2, 1) := dqn_88 (k := 1552) qh_cL_law rfl rfl
theorem dL_law_711 : decode cL_law 711 = .ok (.aload_n 2, 1) := dqn_44 (k := 1551) qh_cL_law rfl rfl
theorem dL_law_712 : decode cL_law 712 = .ok (.aload_n 0, 1) := dqn_42 (k := 1550) qh_cL_law rfl rfl
theorem dL_law_713 : decode cL_law 713 = .ok (.iload_n 3, 1) := dqn_29 (k := 1549) qh_cL_law rfl rfl
theorem dL_law_714 : decode cL_law 714 = .ok (.iconst 1, 1) := dqn_4 (k := 1548) qh_cL_law rfl rfl
theorem dL_law_715 : decode cL_law 715 = .ok (.iadd, 1) := dqn_96 (k := 1547) qh_cL_law rfl rfl
theorem dL_law_716 : decode cL_law 716 = .ok (.iaload, 1) := dqn_46 (k := 1546) qh_cL_law rfl rfl
theorem dL_law_717 : decode cL_law 717 = .ok (.aload_n 0, 1) := dqn_42 (k := 1545) qh_cL_law rfl rfl
theorem dL_law_718 : decode cL_law 718 = .ok (.iload_n 3, 1) := dqn_29 (k := 1544) qh_cL_law rfl rfl
theorem dL_law_719 : decode cL_law 719 = .ok (.iconst 2, 1) := dqn_5 (k := 1543) qh_cL_law rfl rfl
theorem dL_law_720 : decode cL_law 720 = .ok (.iadd, 1) := dqn_96 (k := 1542) qh_cL_law rfl rfl
theorem dL_law_721 : decode cL_law 721 = .ok (.iaload, 1) := dqn_46 (k := 1541) qh_cL_law rfl rfl
theorem dL_law_722 : decode cL_law 722 = .ok (.aload_n 0, 1) := dqn_42 (k := 1540) qh_cL_law rfl rfl
theorem dL_law_723 : decode cL_law 723 = .ok (.iload_n 3, 1) := dqn_29 (k := 1539) qh_cL_law rfl rfl
theorem dL_law_724 : decode cL_law 724 = .ok (.iconst 3, 1) := dqn_6 (k := 1538) qh_cL_law rfl rfl
theorem dL_law_725 : decode cL_law 725 = .ok (.iadd, 1) := dqn_96 (k := 1537) qh_cL_law rfl rfl
theorem dL_law_726 : decode cL_law 726 = .ok (.iaload, 1) := dqn_46 (k := 1536) qh_cL_law rfl rfl
theorem dL_law_727 : decode cL_law 727 = .ok (.ifCond .eq 7, 3) := dqn_153 (k := 1533) (u := 7) qh_cL_law rfl rfl rfl (sg_p rfl rfl)
theorem dL_law_730 : decode cL_law 730 = .ok (.iconst 1, 1) := dqn_4 (k := 1532) qh_cL_law rfl rfl
theorem dL_law_731 : decode cL_law 731 = .ok (.goto 4, 3) := dqn_167 (k := 1529) (u := 4) qh_cL_law rfl rfl rfl (sg_p rfl rfl)
theorem dL_law_734 : decode cL_law 734 = .ok (.iconst 0, 1) := dqn_3 (k := 1528) qh_cL_law rfl rfl
theorem dL_law_735 : decode cL_law 735 = .ok (.invokevirtual 67, 3) := dqn_182 (k := 1525) qh_cL_law rfl rfl rfl
theorem dL_law_738 : decode cL_law 738 = .ok (.pop2, 1) := dqn_88 (k := 1524) qh_cL_law rfl rfl
theorem dL_law_739 : decode cL_law 739 = .ok (.goto 1516, 3) := dqn_167 (k := 1521) (u := 1516) qh_cL_law rfl rfl rfl (sg_p rfl rfl)
theorem dL_law_742 : decode cL_law 742 = .ok (.aload_n 1, 1) := dqn_43 (k := 1520) qh_cL_law rfl rfl
theorem dL_law_743 : decode cL_law 743 = .ok (.aload_n 0, 1) := dqn_42 (k := 1519) qh_cL_law rfl rfl
theorem dL_law_744 : decode cL_law 744 = .ok (.iload_n 3, 1) := dqn_29 (k := 1518) qh_cL_law rfl rfl
theorem dL_law_745 : decode cL_law 745 = .ok (.iconst 1, 1) := dqn_4 (k := 1517) qh_cL_law rfl rfl
theorem dL_law_746 : decode cL_law 746 = .ok (.iadd, 1) := dqn_96 (k := 1516) qh_cL_law rfl rfl
theorem dL_law_747 : decode cL_law 747 = .ok (.iaload, 1) := dqn_46 (k := 1515) qh_cL_law rfl rfl
theorem dL_law_748 : decode cL_law 748 = .ok (.aload_n 0, 1) := dqn_42 (k := 1514) qh_cL_law rfl rfl
theorem dL_law_749 : decode cL_law 749 = .ok (.iload_n 3, 1) := dqn_29 (k := 1513) qh_cL_law rfl rfl
theorem dL_law_750 : decode cL_law 750 = .ok (.iconst 2, 1) := dqn_5 (k := 1512) qh_cL_law rfl rfl
theorem dL_law_751 : decode cL_law 751 = .ok (.iadd, 1) := dqn_96 (k := 1511) qh_cL_law rfl rfl
theorem dL_law_752 : decode cL_law 752 = .ok (.iaload, 1) := dqn_46 (k := 1510) qh_cL_law rfl rfl
theorem dL_law_753 : decode cL_law 753 = .ok (.aload_n 0, 1) := dqn_42 (k := 1509) qh_cL_law rfl rfl
theorem dL_law_754 : decode cL_law 754 = .ok (.iload_n 3, 1) := dqn_29 (k := 1508) qh_cL_law rfl rfl
theorem dL_law_755 : decode cL_law 755 = .ok (.iconst 3, 1) := dqn_6 (k := 1507) qh_cL_law rfl rfl
theorem dL_law_756 : decode cL_law 756 = .ok (.iadd, 1) := dqn_96 (k := 1506) qh_cL_law rfl rfl
theorem dL_law_757 : decode cL_law 757 = .ok (.iaload, 1) := dqn_46 (k := 1505) qh_cL_law rfl rfl
theorem dL_law_758 : decode cL_law 758 = .ok (.aload_n 0, 1) := dqn_42 (k := 1504) qh_cL_law rfl rfl
theorem dL_law_759 : decode cL_law 759 = .ok (.iload_n 3, 1) := dqn_29 (k := 1503) qh_cL_law rfl rfl
theorem dL_law_760 : decode cL_law 760 = .ok (.iconst 4, 1) := dqn_7 (k := 1502) qh_cL_law rfl rfl
theorem dL_law_761 : decode cL_law 761 = .ok (.iadd, 1) := dqn_96 (k := 1501) qh_cL_law rfl rfl
theorem dL_law_762 : decode cL_law 762 = .ok (.iaload, 1) := dqn_46 (k := 1500) qh_cL_law rfl rfl
theorem dL_law_763 : decode cL_law 763 = .ok (.invokevirtual 68, 3) := dqn_182 (k := 1497) qh_cL_law rfl rfl rfl
theorem dL_law_766 : decode cL_law 766 = .ok (.pop, 1) := dqn_87 (k := 1496) qh_cL_law rfl rfl
theorem dL_law_767 : decode cL_law 767 = .ok (.aload_n 2, 1) := dqn_44 (k := 1495) qh_cL_law rfl rfl
theorem dL_law_768 : decode cL_law 768 = .ok (.aload_n 0, 1) := dqn_42 (k := 1494) qh_cL_law rfl rfl
theorem dL_law_769 : decode cL_law 769 = .ok (.iload_n 3, 1) := dqn_29 (k := 1493) qh_cL_law rfl rfl
theorem dL_law_770 : decode cL_law 770 = .ok (.iconst 1, 1) := dqn_4 (k := 1492) qh_cL_law rfl rfl
theorem dL_law_771 : decode cL_law 771 = .ok (.iadd, 1) := dqn_96 (k := 1491) qh_cL_law rfl rfl
theorem dL_law_772 : decode cL_law 772 = .ok (.iaload, 1) := dqn_46 (k := 1490) qh_cL_law rfl rfl
theorem dL_law_773 : decode cL_law 773 = .ok (.aload_n 0, 1) := dqn_42 (k := 1489) qh_cL_law rfl rfl
theorem dL_law_774 : decode cL_law 774 = .ok (.iload_n 3, 1) := dqn_29 (k := 1488) qh_cL_law rfl rfl
theorem dL_law_775 : decode cL_law 775 = .ok (.iconst 2, 1) := dqn_5 (k := 1487) qh_cL_law rfl rfl
theorem dL_law_776 : decode cL_law 776 = .ok (.iadd, 1) := dqn_96 (k := 1486) qh_cL_law rfl rfl
theorem dL_law_777 : decode cL_law 777 = .ok (.iaload, 1) := dqn_46 (k := 1485) qh_cL_law rfl rfl
theorem dL_law_778 : decode cL_law 778 = .ok (.aload_n 0, 1) := dqn_42 (k := 1484) qh_cL_law rfl rfl
theorem dL_law_779 : decode cL_law 779 = .ok (.iload_n 3, 1) := dqn_29 (k := 1483) qh_cL_law rfl rfl
theorem dL_law_780 : decode cL_law 780 = .ok (.iconst 3, 1) := dqn_6 (k := 1482) qh_cL_law rfl rfl
theorem dL_law_781 : decode cL_law 781 = .ok (.iadd, 1) := dqn_96 (k := 1481) qh_cL_law rfl rfl
theorem dL_law_782 : decode cL_law 782 = .ok (.iaload, 1) := dqn_46 (k := 1480) qh_cL_law rfl rfl
theorem dL_law_783 : decode cL_law 783 = .ok (.aload_n 0, 1) := dqn_42 (k := 1479) qh_cL_law rfl rfl
theorem dL_law_784 : decode cL_law 784 = .ok (.iload_n 3, 1) := dqn_29 (k := 1478) qh_cL_law rfl rfl
theorem dL_law_785 : decode cL_law 785 = .ok (.iconst 4, 1) := dqn_7 (k := 1477) qh_cL_law rfl rfl
theorem dL_law_786 : decode cL_law 786 = .ok (.iadd, 1) := dqn_96 (k := 1476) qh_cL_law rfl rfl
theorem dL_law_787 : decode cL_law 787 = .ok (.iaload, 1) := dqn_46 (k := 1475) qh_cL_law rfl rfl
theorem dL_law_788 : decode cL_law 788 = .ok (.invokevirtual 71, 3) := dqn_182 (k := 1472) qh_cL_law rfl rfl rfl
theorem dL_law_791 : decode cL_law 791 = .ok (.pop, 1) := dqn_87 (k := 1471) qh_cL_law rfl rfl
theorem dL_law_792 : decode cL_law 792 = .ok (.goto 1463, 3) := dqn_167 (k := 1468) (u := 1463) qh_cL_law rfl rfl rfl (sg_p rfl rfl)
theorem dL_law_795 : decode cL_law 795 = .ok (.aload_n 1, 1) := dqn_43 (k := 1467) qh_cL_law rfl rfl
theorem dL_law_796 : decode cL_law 796 = .ok (.aload_n 0, 1) := dqn_42 (k := 1466) qh_cL_law rfl rfl
theorem dL_law_797 : decode cL_law 797 = .ok (.iload_n 3, 1) := dqn_29 (k := 1465) qh_cL_law rfl rfl
theorem dL_law_798 : decode cL_law 798 = .ok (.iconst 1, 1) := dqn_4 (k := 1464) qh_cL_law rfl rfl
theorem dL_law_799 : decode cL_law 799 = .ok (.iadd, 1) := dqn_96 (k := 1463) qh_cL_law rfl rfl
theorem dL_law_800 : decode cL_law 800 = .ok (.iaload, 1) := dqn_46 (k := 1462) qh_cL_law rfl rfl
theorem dL_law_801 : decode cL_law 801 = .ok (.aload_n 0, 1) := dqn_42 (k := 1461) qh_cL_law rfl rfl
theorem dL_law_802 : decode cL_law 802 = .ok (.iload_n 3, 1) := dqn_29 (k := 1460) qh_cL_law rfl rfl
theorem dL_law_803 : decode cL_law 803 = .ok (.iconst 2, 1) := dqn_5 (k := 1459) qh_cL_law rfl rfl
theorem dL_law_804 : decode cL_law 804 = .ok (.iadd, 1) := dqn_96 (k := 1458) qh_cL_law rfl rfl
theorem dL_law_805 : decode cL_law 805 = .ok (.iaload, 1) := dqn_46 (k := 1457) qh_cL_law rfl rfl
theorem dL_law_806 : decode cL_law 806 = .ok (.aload_n 0, 1) := dqn_42 (k := 1456) qh_cL_law rfl rfl
theorem dL_law_807 : decode cL_law 807 = .ok (.iload_n 3, 1) := dqn_29 (k := 1455) qh_cL_law rfl rfl
theorem dL_law_808 : decode cL_law 808 = .ok (.iconst 3, 1) := dqn_6 (k := 1454) qh_cL_law rfl rfl
theorem dL_law_809 : decode cL_law 809 = .ok (.iadd, 1) := dqn_96 (k := 1453) qh_cL_law rfl rfl
theorem dL_law_810 : decode cL_law 810 = .ok (.iaload, 1) := dqn_46 (k := 1452) qh_cL_law rfl rfl
theorem dL_law_811 : decode cL_law 811 = .ok (.aload_n 0, 1) := dqn_42 (k := 1451) qh_cL_law rfl rfl
theorem dL_law_812 : decode cL_law 812 = .ok (.iload_n 3, 1) := dqn_29 (k := 1450) qh_cL_law rfl rfl
theorem dL_law_813 : decode cL_law 813 = .ok (.iconst 4, 1) := dqn_7 (k := 1449) qh_cL_law rfl rfl
theorem dL_law_814 : decode cL_law 814 = .ok (.iadd, 1) := dqn_96 (k := 1448) qh_cL_law rfl rfl
theorem dL_law_815 : decode cL_law 815 = .ok (.iaload, 1) := dqn_46 (k := 1447) qh_cL_law rfl rfl
theorem dL_law_816 : decode cL_law 816 = .ok (.invokevirtual 72, 3) := dqn_182 (k := 1444) qh_cL_law rfl rfl rfl
theorem dL_law_819 : decode cL_law 819 = .ok (.pop, 1) := dqn_87 (k := 1443) qh_cL_law rfl rfl
theorem dL_law_820 : decode cL_law 820 = .ok (.aload_n 2, 1) := dqn_44 (k := 1442) qh_cL_law rfl rfl
theorem dL_law_821 : decode cL_law 821 = .ok (.aload_n 0, 1) := dqn_42 (k := 1441) qh_cL_law rfl rfl
theorem dL_law_822 : decode cL_law 822 = .ok (.iload_n 3, 1) := dqn_29 (k := 1440) qh_cL_law rfl rfl
theorem dL_law_823 : decode cL_law 823 = .ok (.iconst 1, 1) := dqn_4 (k := 1439) qh_cL_law rfl rfl
theorem dL_law_824 : decode cL_law 824 = .ok (.iadd, 1) := dqn_96 (k := 1438) qh_cL_law rfl rfl
theorem dL_law_825 : decode cL_law 825 = .ok (.iaload, 1) := dqn_46 (k := 1437) qh_cL_law rfl rfl
theorem dL_law_826 : decode cL_law 826 = .ok (.aload_n 0, 1) := dqn_42 (k := 1436) qh_cL_law rfl rfl
theorem dL_law_827 : decode cL_law 827 = .ok (.iload_n 3, 1) := dqn_29 (k := 1435) qh_cL_law rfl rfl
theorem dL_law_828 : decode cL_law 828 = .ok (.iconst 2, 1) := dqn_5 (k := 1434) qh_cL_law rfl rfl
theorem dL_law_829 : decode cL_law 829 = .ok (.iadd, 1) := dqn_96 (k := 1433) qh_cL_law rfl rfl
theorem dL_law_830 : decode cL_law 830 = .ok (.iaload, 1) := dqn_46 (k := 1432) qh_cL_law rfl rfl
theorem dL_law_831 : decode cL_law 831 = .ok (.aload_n 0, 1) := dqn_42 (k := 1431) qh_cL_law rfl rfl
theorem dL_law_832 : decode cL_law 832 = .ok (.iload_n 3, 1) := dqn_29 (k := 1430) qh_cL_law rfl rfl
theorem dL_law_833 : decode cL_law 833 = .ok (.iconst 3, 1) := dqn_6 (k := 1429) qh_cL_law rfl rfl
theorem dL_law_834 : decode cL_law 834 = .ok (.iadd, 1) := dqn_96 (k := 1428) qh_cL_law rfl rfl
theorem dL_law_835 : decode cL_law 835 = .ok (.iaload, 1) := dqn_46 (k := 1427) qh_cL_law rfl rfl
theorem dL_law_836 : decode cL_law 836 = .ok (.aload_n 0, 1) := dqn_42 (k := 1426) qh_cL_law rfl rfl
theorem dL_law_837 : decode cL_law 837 = .ok (.iload_n 3, 1) := dqn_29 (k := 1425) qh_cL_law rfl rfl
theorem dL_law_838 : decode cL_law 838 = .ok (.iconst 4, 1) := dqn_7 (k := 1424) qh_cL_law rfl rfl
theorem dL_law_839 : decode cL_law 839 = .ok (.iadd, 1) := dqn_96 (k := 1423) qh_cL_law rfl rfl
theorem dL_law_840 : decode cL_law 840 = .ok (.iaload, 1) := dqn_46 (k := 1422) qh_cL_law rfl rfl
theorem dL_law_841 : decode cL_law 841 = .ok (.invokevirtual 75, 3) := dqn_182 (k := 1419) qh_cL_law rfl rfl rfl
theorem dL_law_844 : decode cL_law 844 = .ok (.pop, 1) := dqn_87 (k := 1418) qh_cL_law rfl rfl
theorem dL_law_845 : decode cL_law 845 = .ok (.goto 1410, 3) := dqn_167 (k := 1415) (u := 1410) qh_cL_law rfl rfl rfl (sg_p rfl rfl)
theorem dL_law_848 : decode cL_law 848 = .ok (.aload_n 1, 1) := dqn_43 (k := 1414) qh_cL_law rfl rfl
theorem dL_law_849 : decode cL_law 849 = .ok (.aload_n 0, 1) := dqn_42 (k := 1413) qh_cL_law rfl rfl
theorem dL_law_850 : decode cL_law 850 = .ok (.iload_n 3, 1) := dqn_29 (k := 1412) qh_cL_law rfl rfl
theorem dL_law_851 : decode cL_law 851 = .ok (.iconst 1, 1) := dqn_4 (k := 1411) qh_cL_law rfl rfl
theorem dL_law_852 : decode cL_law 852 = .ok (.iadd, 1) := dqn_96 (k := 1410) qh_cL_law rfl rfl
theorem dL_law_853 : decode cL_law 853 = .ok (.iaload, 1) := dqn_46 (k := 1409) qh_cL_law rfl rfl
theorem dL_law_854 : decode cL_law 854 = .ok (.aload_n 0, 1) := dqn_42 (k := 1408) qh_cL_law rfl rfl
theorem dL_law_855 : decode cL_law 855 = .ok (.iload_n 3, 1) := dqn_29 (k := 1407) qh_cL_law rfl rfl
theorem dL_law_856 : decode cL_law 856 = .ok (.iconst 2, 1) := dqn_5 (k := 1406) qh_cL_law rfl rfl
theorem dL_law_857 : decode cL_law 857 = .ok (.iadd, 1) := dqn_96 (k := 1405) qh_cL_law rfl rfl
theorem dL_law_858 : decode cL_law 858 = .ok (.iaload, 1) := dqn_46 (k := 1404) qh_cL_law rfl rfl
theorem dL_law_859 : decode cL_law 859 = .ok (.aload_n 0, 1) := dqn_42 (k := 1403) qh_cL_law rfl rfl
theorem dL_law_860 : decode cL_law 860 = .ok (.iload_n 3, 1) := dqn_29 (k := 1402) qh_cL_law rfl rfl
theorem dL_law_861 : decode cL_law 861 = .ok (.iconst 3, 1) := dqn_6 (k := 1401) qh_cL_law rfl rfl
theorem dL_law_862 : decode cL_law 862 = .ok (.iadd, 1) := dqn_96 (k := 1400) qh_cL_law rfl rfl
theorem dL_law_863 : decode cL_law 863 = .ok (.iaload, 1) := dqn_46 (k := 1399) qh_cL_law rfl rfl
theorem dL_law_864 : decode cL_law 864 = .ok (.aload_n 0, 1) := dqn_42 (k := 1398) qh_cL_law rfl rfl
theorem dL_law_865 : decode cL_law 865 = .ok (.iload_n 3, 1) := dqn_29 (k := 1397) qh_cL_law rfl rfl
theorem dL_law_866 : decode cL_law 866 = .ok (.iconst 4, 1) := dqn_7 (k := 1396) qh_cL_law rfl rfl
theorem dL_law_867 : decode cL_law 867 = .ok (.iadd, 1) := dqn_96 (k := 1395) qh_cL_law rfl rfl
theorem dL_law_868 : decode cL_law 868 = .ok (.iaload, 1) := dqn_46 (k := 1394) qh_cL_law rfl rfl
theorem dL_law_869 : decode cL_law 869 = .ok (.invokevirtual 76, 3) := dqn_182 (k := 1391) qh_cL_law rfl rfl rfl
theorem dL_law_872 : decode cL_law 872 = .ok (.pop, 1) := dqn_87 (k := 1390) qh_cL_law rfl rfl
theorem dL_law_873 : decode cL_law 873 = .ok (.aload_n 2, 1) := dqn_44 (k := 1389) qh_cL_law rfl rfl
theorem dL_law_874 : decode cL_law 874 = .ok (.aload_n 0, 1) := dqn_42 (k := 1388) qh_cL_law rfl rfl
theorem dL_law_875 : decode cL_law 875 = .ok (.iload_n 3, 1) := dqn_29 (k := 1387) qh_cL_law rfl rfl
theorem dL_law_876 : decode cL_law 876 = .ok (.iconst 1, 1) := dqn_4 (k := 1386) qh_cL_law rfl rfl
theorem dL_law_877 : decode cL_law 877 = .ok (.iadd, 1) := dqn_96 (k := 1385) qh_cL_law rfl rfl
theorem dL_law_878 : decode cL_law 878 = .ok (.iaload, 1) := dqn_46 (k := 1384) qh_cL_law rfl rfl
theorem dL_law_879 : decode cL_law 879 = .ok (.aload_n 0, 1) := dqn_42 (k := 1383) qh_cL_law rfl rfl
theorem dL_law_880 : decode cL_law 880 = .ok (.iload_n 3, 1) := dqn_29 (k := 1382) qh_cL_law rfl rfl
theorem dL_law_881 : decode cL_law 881 = .ok (.iconst 2, 1) := dqn_5 (k := 1381) qh_cL_law rfl rfl
theorem dL_law_882 : decode cL_law 882 = .ok (.iadd, 1) := dqn_96 (k := 1380) qh_cL_law rfl rfl
theorem dL_law_883 : decode cL_law 883 = .ok (.iaload, 1) := dqn_46 (k := 1379) qh_cL_law rfl rfl
theorem dL_law_884 : decode cL_law 884 = .ok (.aload_n 0, 1) := dqn_42 (k := 1378) qh_cL_law rfl rfl
theorem dL_law_885 : decode cL_law 885 = .ok (.iload_n 3, 1) := dqn_29 (k := 1377) qh_cL_law rfl rfl
theorem dL_law_886 : decode cL_law 886 = .ok (.iconst 3, 1) := dqn_6 (k := 1376) qh_cL_law rfl rfl
theorem dL_law_887 : decode cL_law 887 = .ok (.iadd, 1) := dqn_96 (k := 1375) qh_cL_law rfl rfl
theorem dL_law_888 : decode cL_law 888 = .ok (.iaload, 1) := dqn_46 (k := 1374) qh_cL_law rfl rfl
theorem dL_law_889 : decode cL_law 889 = .ok (.aload_n 0, 1) := dqn_42 (k := 1373) qh_cL_law rfl rfl
theorem dL_law_890 : decode cL_law 890 = .ok (.iload_n 3, 1) := dqn_29 (k := 1372) qh_cL_law rfl rfl
theorem dL_law_891 : decode cL_law 891 = .ok (.iconst 4, 1) := dqn_7 (k := 1371) qh_cL_law rfl rfl
theorem dL_law_892 : decode cL_law 892 = .ok (.iadd, 1) := dqn_96 (k := 1370) qh_cL_law rfl rfl
theorem dL_law_893 : decode cL_law 893 = .ok (.iaload, 1) := dqn_46 (k := 1369) qh_cL_law rfl rfl
theorem dL_law_894 : decode cL_law 894 = .ok (.invokevirtual 79, 3) := dqn_182 (k := 1366) qh_cL_law rfl rfl rfl
theorem dL_law_897 : decode cL_law 897 = .ok (.pop, 1) := dqn_87 (k := 1365) qh_cL_law rfl rfl
theorem dL_law_898 : decode cL_law 898 = .ok (.goto 1357, 3) := dqn_167 (k := 1362) (u := 1357) qh_cL_law rfl rfl rfl (sg_p rfl rfl)
theorem dL_law_901 : decode cL_law 901 = .ok (.aload_n 1, 1) := dqn_43 (k := 1361) qh_cL_law rfl rfl
theorem dL_law_902 : decode cL_law 902 = .ok (.aload_n 0, 1) := dqn_42 (k := 1360) qh_cL_law rfl rfl
theorem dL_law_903 : decode cL_law 903 = .ok (.iload_n 3, 1) := dqn_29 (k := 1359) qh_cL_law rfl rfl
theorem dL_law_904 : decode cL_law 904 = .ok (.iconst 1, 1) := dqn_4 (k := 1358) qh_cL_law rfl rfl
theorem dL_law_905 : decode cL_law 905 = .ok (.iadd, 1) := dqn_96 (k := 1357) qh_cL_law rfl rfl
theorem dL_law_906 : decode cL_law 906 = .ok (.iaload, 1) := dqn_46 (k := 1356) qh_cL_law rfl rfl
theorem dL_law_907 : decode cL_law 907 = .ok (.aload_n 0, 1) := dqn_42 (k := 1355) qh_cL_law rfl rfl
theorem dL_law_908 : decode cL_law 908 = .ok (.iload_n 3, 1) := dqn_29 (k := 1354) qh_cL_law rfl rfl
theorem dL_law_909 : decode cL_law 909 = .ok (.iconst 2, 1) := dqn_5 (k := 1353) qh_cL_law rfl rfl
theorem dL_law_910 : decode cL_law 910 = .ok (.iadd, 1) := dqn_96 (k := 1352) qh_cL_law rfl rfl
theorem dL_law_911 : decode cL_law 911 = .ok (.iaload, 1) := dqn_46 (k := 1351) qh_cL_law rfl rfl
theorem dL_law_912 : decode cL_law 912 = .ok (.aload_n 0, 1) := dqn_42 (k := 1350) qh_cL_law rfl rfl
theorem dL_law_913 : decode cL_law 913 = .ok (.iload_n 3, 1) := dqn_29 (k := 1349) qh_cL_law rfl rfl
theorem dL_law_914 : decode cL_law 914 = .ok (.iconst 3, 1) := dqn_6 (k := 1348) qh_cL_law rfl rfl
theorem dL_law_915 : decode cL_law 915 = .ok (.iadd, 1) := dqn_96 (k := 1347) qh_cL_law rfl rfl
theorem dL_law_916 : decode cL_law 916 = .ok (.iaload, 1) := dqn_46 (k := 1346) qh_cL_law rfl rfl
theorem dL_law_917 : decode cL_law 917 = .ok (.invokevirtual 80, 3) := dqn_182 (k := 1343) qh_cL_law rfl rfl rfl
theorem dL_law_920 : decode cL_law 920 = .ok (.pop2, 1) := dqn_88 (k := 1342) qh_cL_law rfl rfl
theorem dL_law_921 : decode cL_law 921 = .ok (.aload_n 2, 1) := dqn_44 (k := 1341) qh_cL_law rfl rfl
theorem dL_law_922 : decode cL_law 922 = .ok (.aload_n 0, 1) := dqn_42 (k := 1340) qh_cL_law rfl rfl
theorem dL_law_923 : decode cL_law 923 = .ok (.iload_n 3, 1) := dqn_29 (k := 1339) qh_cL_law rfl rfl
theorem dL_law_924 : decode cL_law 924 = .ok (.iconst 1, 1) := dqn_4 (k := 1338) qh_cL_law rfl rfl
theorem dL_law_925 : decode cL_law 925 = .ok (.iadd, 1) := dqn_96 (k := 1337) qh_cL_law rfl rfl
theorem dL_law_926 : decode cL_law 926 = .ok (.iaload, 1) := dqn_46 (k := 1336) qh_cL_law rfl rfl
theorem dL_law_927 : decode cL_law 927 = .ok (.aload_n 0, 1) := dqn_42 (k := 1335) qh_cL_law rfl rfl
theorem dL_law_928 : decode cL_law 928 = .ok (.iload_n 3, 1) := dqn_29 (k := 1334) qh_cL_law rfl rfl
theorem dL_law_929 : decode cL_law 929 = .ok (.iconst 2, 1) := dqn_5 (k := 1333) qh_cL_law rfl rfl
theorem dL_law_930 : decode cL_law 930 = .ok (.iadd, 1) := dqn_96 (k := 1332) qh_cL_law rfl rfl
theorem dL_law_931 : decode cL_law 931 = .ok (.iaload, 1) := dqn_46 (k := 1331) qh_cL_law rfl rfl
theorem dL_law_932 : decode cL_law 932 = .ok (.aload_n 0, 1) := dqn_42 (k := 1330) qh_cL_law rfl rfl
theorem dL_law_933 : decode cL_law 933 = .ok (.iload_n 3, 1) := dqn_29 (k := 1329) qh_cL_law rfl rfl
theorem dL_law_934 : decode cL_law 934 = .ok (.iconst 3, 1) := dqn_6 (k := 1328) qh_cL_law rfl rfl
theorem dL_law_935 : decode cL_law 935 = .ok (.iadd, 1) := dqn_96 (k := 1327) qh_cL_law rfl rfl
theorem dL_law_936 : decode cL_law 936 = .ok (.iaload, 1) := dqn_46 (k := 1326) qh_cL_law rfl rfl
theorem dL_law_937 : decode cL_law 937 = .ok (.invokevirtual 83, 3) := dqn_182 (k := 1323) qh_cL_law rfl rfl rfl
theorem dL_law_940 : decode cL_law 940 = .ok (.pop2, 1) := dqn_88 (k := 1322) qh_cL_law rfl rfl
theorem dL_law_941 : decode cL_law 941 = .ok (.goto 1314, 3) := dqn_167 (k := 1319) (u := 1314) qh_cL_law rfl rfl rfl (sg_p rfl rfl)
theorem dL_law_944 : decode cL_law 944 = .ok (.aload_n 1, 1) := dqn_43 (k := 1318) qh_cL_law rfl rfl
theorem dL_law_945 : decode cL_law 945 = .ok (.aload_n 0, 1) := dqn_42 (k := 1317) qh_cL_law rfl rfl
theorem dL_law_946 : decode cL_law 946 = .ok (.iload_n 3, 1) := dqn_29 (k := 1316) qh_cL_law rfl rfl
theorem dL_law_947 : decode cL_law 947 = .ok (.iconst 1, 1) := dqn_4 (k := 1315) qh_cL_law rfl rfl
theorem dL_law_948 : decode cL_law 948 = .ok (.iadd, 1) := dqn_96 (k := 1314) qh_cL_law rfl rfl
theorem dL_law_949 : decode cL_law 949 = .ok (.iaload, 1) := dqn_46 (k := 1313) qh_cL_law rfl rfl
theorem dL_law_950 : decode cL_law 950 = .ok (.aload_n 0, 1) := dqn_42 (k := 1312) qh_cL_law rfl rfl
theorem dL_law_951 : decode cL_law 951 = .ok (.iload_n 3, 1) := dqn_29 (k := 1311) qh_cL_law rfl rfl
theorem dL_law_952 : decode cL_law 952 = .ok (.iconst 2, 1) := dqn_5 (k := 1310) qh_cL_law rfl rfl
theorem dL_law_953 : decode cL_law 953 = .ok (.iadd, 1) := dqn_96 (k := 1309) qh_cL_law rfl rfl
theorem dL_law_954 : decode cL_law 954 = .ok (.iaload, 1) := dqn_46 (k := 1308) qh_cL_law rfl rfl
theorem dL_law_955 : decode cL_law 955 = .ok (.aload_n 0, 1) := dqn_42 (k := 1307) qh_cL_law rfl rfl
theorem dL_law_956 : decode cL_law 956 = .ok (.iload_n 3, 1) := dqn_29 (k := 1306) qh_cL_law rfl rfl
theorem dL_law_957 : decode cL_law 957 = .ok (.iconst 3, 1) := dqn_6 (k := 1305) qh_cL_law rfl rfl
theorem dL_law_958 : decode cL_law 958 = .ok (.iadd, 1) := dqn_96 (k := 1304) qh_cL_law rfl rfl
theorem dL_law_959 : decode cL_law 959 = .ok (.iaload, 1) := dqn_46 (k := 1303) qh_cL_law rfl rfl
theorem dL_law_960 : decode cL_law 960 = .ok (.ifCond .eq 7, 3) := dqn_153 (k := 1300) (u := 7) qh_cL_law rfl rfl rfl (sg_p rfl rfl)
theorem dL_law_963 : decode cL_law 963 = .ok (.iconst 1, 1) := dqn_4 (k := 1299) qh_cL_law rfl rfl
theorem dL_law_964 : decode cL_law 964 = .ok (.goto 4, 3) := dqn_167 (k := 1296) (u := 4) qh_cL_law rfl rfl rfl (sg_p rfl rfl)
theorem dL_law_967 : decode cL_law 967 = .ok (.iconst 0, 1) := dqn_3 (k := 1295) qh_cL_law rfl rfl
theorem dL_law_968 : decode cL_law 968 = .ok (.invokevirtual 84, 3) := dqn_182 (k := 1292) qh_cL_law rfl rfl rfl
theorem dL_law_971 : decode cL_law 971 = .ok (.pop2, 1) := dqn_88 (k := 1291) qh_cL_law rfl rfl
theorem dL_law_972 : decode cL_law 972 = .ok (.aload_n 2, 1) := dqn_44 (k := 1290) qh_cL_law rfl rfl
theorem dL_law_973 : decode cL_law 973 = .ok (.aload_n 0, 1) := dqn_42 (k := 1289) qh_cL_law rfl rfl
theorem dL_law_974 : decode cL_law 974 = .ok (.iload_n 3, 1) := dqn_29 (k := 1288) qh_cL_law rfl rfl
theorem dL_law_975 : decode cL_law 975 = .ok (.iconst 1, 1) := dqn_4 (k := 1287) qh_cL_law rfl rfl
theorem dL_law_976 : decode cL_law 976 = .ok (.iadd, 1) := dqn_96 (k := 1286) qh_cL_law rfl rfl
theorem dL_law_977 : decode cL_law 977 = .ok (.iaload, 1) := dqn_46 (k := 1285) qh_cL_law rfl rfl
theorem dL_law_978 : decode cL_law 978 = .ok (.aload_n 0, 1) := dqn_42 (k := 1284) qh_cL_law rfl rfl
theorem dL_law_979 : decode cL_law 979 = .ok (.iload_n 3, 1) := dqn_29 (k := 1283) qh_cL_law rfl rfl
theorem dL_law_980 : decode cL_law 980 = .ok (.iconst 2, 1) := dqn_5 (k := 1282) qh_cL_law rfl rfl
theorem dL_law_981 : decode cL_law 981 = .ok (.iadd, 1) := dqn_96 (k := 1281) qh_cL_law rfl rfl
theorem dL_law_982 : decode cL_law 982 = .ok (.iaload, 1) := dqn_46 (k := 1280) qh_cL_law rfl rfl
theorem dL_law_983 : decode cL_law 983 = .ok (.aload_n 0, 1) := dqn_42 (k := 1279) qh_cL_law rfl rfl
theorem dL_law_984 : decode cL_law 984 = .ok (.iload_n 3, 1) := dqn_29 (k := 1278) qh_cL_law rfl rfl
theorem dL_law_985 : decode cL_law 985 = .ok (.iconst 3, 1) := dqn_6 (k := 1277) qh_cL_law rfl rfl
theorem dL_law_986 : decode cL_law 986 = .ok (.iadd, 1) := dqn_96 (k := 1276) qh_cL_law rfl rfl
theorem dL_law_987 : decode cL_law 987 = .ok (.iaload, 1) := dqn_46 (k := 1275) qh_cL_law rfl rfl
theorem dL_law_988 : decode cL_law 988 = .ok (.ifCond .eq 7, 3) := dqn_153 (k := 1272) (u := 7) qh_cL_law rfl rfl rfl (sg_p rfl rfl)
theorem dL_law_991 : decode cL_law 991 = .ok (.iconst 1, 1) := dqn_4 (k := 1271) qh_cL_law rfl rfl
theorem dL_law_992 : decode cL_law 992 = .ok (.goto 4, 3) := dqn_167 (k := 1268) (u := 4) qh_cL_law rfl rfl rfl (sg_p rfl rfl)
theorem dL_law_995 : decode cL_law 995 = .ok (.iconst 0, 1) := dqn_3 (k := 1267) qh_cL_law rfl rfl
theorem dL_law_996 : decode cL_law 996 = .ok (.invokevirtual 87, 3) := dqn_182 (k := 1264) qh_cL_law rfl rfl rfl
theorem dL_law_999 : decode cL_law 999 = .ok (.pop2, 1) := dqn_88 (k := 1263) qh_cL_law rfl rfl
theorem dL_law_1000 : decode cL_law 1000 = .ok (.goto 1255, 3) := dqn_167 (k := 1260) (u := 1255) qh_cL_law rfl rfl rfl (sg_p rfl rfl)
theorem dL_law_1003 : decode cL_law 1003 = .ok (.aload_n 1, 1) := dqn_43 (k := 1259) qh_cL_law rfl rfl
theorem dL_law_1004 : decode cL_law 1004 = .ok (.aload_n 0, 1) := dqn_42 (k := 1258) qh_cL_law rfl rfl
theorem dL_law_1005 : decode cL_law 1005 = .ok (.iload_n 3, 1) := dqn_29 (k := 1257) qh_cL_law rfl rfl
theorem dL_law_1006 : decode cL_law 1006 = .ok (.iconst 1, 1) := dqn_4 (k := 1256) qh_cL_law rfl rfl
theorem dL_law_1007 : decode cL_law 1007 = .ok (.iadd, 1) := dqn_96 (k := 1255) qh_cL_law rfl rfl
theorem dL_law_1008 : decode cL_law 1008 = .ok (.iaload, 1) := dqn_46 (k := 1254) qh_cL_law rfl rfl
theorem dL_law_1009 : decode cL_law 1009 = .ok (.aload_n 0, 1) := dqn_42 (k := 1253) qh_cL_law rfl rfl
theorem dL_law_1010 : decode cL_law 1010 = .ok (.iload_n 3, 1) := dqn_29 (k := 1252) qh_cL_law rfl rfl
theorem dL_law_1011 : decode cL_law 1011 = .ok (.iconst 2, 1) := dqn_5 (k := 1251) qh_cL_law rfl rfl
theorem dL_law_1012 : decode cL_law 1012 = .ok (.iadd, 1) := dqn_96 (k := 1250) qh_cL_law rfl rfl
theorem dL_law_1013 : decode cL_law 1013 = .ok (.iaload, 1) := dqn_46 (k := 1249) qh_cL_law rfl rfl
theorem dL_law_1014 : decode cL_law 1014 = .ok (.aload_n 0, 1) := dqn_42 (k := 1248) qh_cL_law rfl rfl
theorem dL_law_1015 : decode cL_law 1015 = .ok (.iload_n 3, 1) := dqn_29 (k := 1247) qh_cL_law rfl rfl
theorem dL_law_1016 : decode cL_law 1016 = .ok (.iconst 3, 1) := dqn_6 (k := 1246) qh_cL_law rfl rfl
theorem dL_law_1017 : decode cL_law 1017 = .ok (.iadd, 1) := dqn_96 (k := 1245) qh_cL_law rfl rfl
theorem dL_law_1018 : decode cL_law 1018 = .ok (.iaload, 1) := dqn_46 (k := 1244) qh_cL_law rfl rfl
theorem dL_law_1019 : decode cL_law 1019 = .ok (.invokevirtual 88, 3) := dqn_182 (k := 1241) qh_cL_law rfl rfl rfl
theorem dL_law_1022 : decode cL_law 1022 = .ok (.pop, 1) := dqn_87 (k := 1240) qh_cL_law rfl rfl
theorem dL_law_1023 : decode cL_law 1023 = .ok (.aload_n 2, 1) := dqn_44 (k := 1239) qh_cL_law rfl rfl
theorem dL_law_1024 : decode cL_law 1024 = .ok (.aload_n 0, 1) := dqn_42 (k := 1238) qh_cL_law rfl rfl
theorem dL_law_1025 : decode cL_law 1025 = .ok (.iload_n 3, 1) := dqn_29 (k := 1237) qh_cL_law rfl rfl
theorem dL_law_1026 : decode cL_law 1026 = .ok (.iconst 1, 1) := dqn_4 (k := 1236) qh_cL_law rfl rfl
theorem dL_law_1027 : decode cL_law 1027 = .ok (.iadd, 1) := dqn_96 (k := 1235) qh_cL_law rfl rfl
theorem dL_law_1028 : decode cL_law 1028 = .ok (.iaload, 1) := dqn_46 (k := 1234) qh_cL_law rfl rfl
theorem dL_law_1029 : decode cL_law 1029 = .ok (.aload_n 0, 1) := dqn_42 (k := 1233) qh_cL_law rfl rfl
theorem dL_law_1030 : decode cL_law 1030 = .ok (.iload_n 3, 1) := dqn_29 (k := 1232) qh_cL_law rfl rfl
theorem dL_law_1031 : decode cL_law 1031 = .ok (.iconst 2, 1) := dqn_5 (k := 1231) qh_cL_law rfl rfl
theorem dL_law_1032 : decode cL_law 1032 = .ok (.iadd, 1) := dqn_96 (k := 1230) qh_cL_law rfl rfl
theorem dL_law_1033 : decode cL_law 1033 = .ok (.iaload, 1) := dqn_46 (k := 1229) qh_cL_law rfl rfl
theorem dL_law_1034 : decode cL_law 1034 = .ok (.aload_n 0, 1) := dqn_42 (k := 1228) qh_cL_law rfl rfl
theorem dL_law_1035 : decode cL_law 1035 = .ok (.iload_n 3, 1) := dqn_29 (k := 1227) qh_cL_law rfl rfl
theorem dL_law_1036 : decode cL_law 1036 = .ok (.iconst 3, 1) := dqn_6 (k := 1226) qh_cL_law rfl rfl
theorem dL_law_1037 : decode cL_law 1037 = .ok (.iadd, 1) := dqn_96 (k := 1225) qh_cL_law rfl rfl
theorem dL_law_1038 : decode cL_law 1038 = .ok (.iaload, 1) := dqn_46 (k := 1224) qh_cL_law rfl rfl
theorem dL_law_1039 : decode cL_law 1039 = .ok (.invokevirtual 91, 3) := dqn_182 (k := 1221) qh_cL_law rfl rfl rfl
theorem dL_law_1042 : decode cL_law 1042 = .ok (.pop, 1) := dqn_87 (k := 1220) qh_cL_law rfl rfl
theorem dL_law_1043 : decode cL_law 1043 = .ok (.goto 1212, 3) := dqn_167 (k := 1217) (u := 1212) qh_cL_law rfl rfl rfl (sg_p rfl rfl)
theorem dL_law_1046 : decode cL_law 1046 = .ok (.aload_n 1, 1) := dqn_43 (k := 1216) qh_cL_law rfl rfl
theorem dL_law_1047 : decode cL_law 1047 = .ok (.aload_n 0, 1) := dqn_42 (k := 1215) qh_cL_law rfl rfl
theorem dL_law_1048 : decode cL_law 1048 = .ok (.iload_n 3, 1) := dqn_29 (k := 1214) qh_cL_law rfl rfl
theorem dL_law_1049 : decode cL_law 1049 = .ok (.iconst 1, 1) := dqn_4 (k := 1213) qh_cL_law rfl rfl
theorem dL_law_1050 : decode cL_law 1050 = .ok (.iadd, 1) := dqn_96 (k := 1212) qh_cL_law rfl rfl
theorem dL_law_1051 : decode cL_law 1051 = .ok (.iaload, 1) := dqn_46 (k := 1211) qh_cL_law rfl rfl
theorem dL_law_1052 : decode cL_law 1052 = .ok (.aload_n 0, 1) := dqn_42 (k := 1210) qh_cL_law rfl rfl
theorem dL_law_1053 : decode cL_law 1053 = .ok (.iload_n 3, 1) := dqn_29 (k := 1209) qh_cL_law rfl rfl
theorem dL_law_1054 : decode cL_law 1054 = .ok (.iconst 2, 1) := dqn_5 (k := 1208) qh_cL_law rfl rfl
theorem dL_law_1055 : decode cL_law 1055 = .ok (.iadd, 1) := dqn_96 (k := 1207) qh_cL_law rfl rfl
theorem dL_law_1056 : decode cL_law 1056 = .ok (.iaload, 1) := dqn_46 (k := 1206) qh_cL_law rfl rfl
theorem dL_law_1057 : decode cL_law 1057 = .ok (.aload_n 0, 1) := dqn_42 (k := 1205) qh_cL_law rfl rfl
theorem dL_law_1058 : decode cL_law 1058 = .ok (.iload_n 3, 1) := dqn_29 (k := 1204) qh_cL_law rfl rfl
theorem dL_law_1059 : decode cL_law 1059 = .ok (.iconst 3, 1) := dqn_6 (k := 1203) qh_cL_law rfl rfl
theorem dL_law_1060 : decode cL_law 1060 = .ok (.iadd, 1) := dqn_96 (k := 1202) qh_cL_law rfl rfl
theorem dL_law_1061 : decode cL_law 1061 = .ok (.iaload, 1) := dqn_46 (k := 1201) qh_cL_law rfl rfl
theorem dL_law_1062 : decode cL_law 1062 = .ok (.aload_n 0, 1) := dqn_42 (k := 1200) qh_cL_law rfl rfl
theorem dL_law_1063 : decode cL_law 1063 = .ok (.iload_n 3, 1) := dqn_29 (k := 1199) qh_cL_law rfl rfl
theorem dL_law_1064 : decode cL_law 1064 = .ok (.iconst 4, 1) := dqn_7 (k := 1198) qh_cL_law rfl rfl
theorem dL_law_1065 : decode cL_law 1065 = .ok (.iadd, 1) := dqn_96 (k := 1197) qh_cL_law rfl rfl
theorem dL_law_1066 : decode cL_law 1066 = .ok (.iaload, 1) := dqn_46 (k := 1196) qh_cL_law rfl rfl
theorem dL_law_1067 : decode cL_law 1067 = .ok (.invokevirtual 92, 3) := dqn_182 (k := 1193) qh_cL_law rfl rfl rfl
theorem dL_law_1070 : decode cL_law 1070 = .ok (.pop2, 1) := dqn_88 (k := 1192) qh_cL_law rfl rfl
theorem dL_law_1071 : decode cL_law 1071 = .ok (.aload_n 2, 1) := dqn_44 (k := 1191) qh_cL_law rfl rfl
theorem dL_law_1072 : decode cL_law 1072 = .ok (.aload_n 0, 1) := dqn_42 (k := 1190) qh_cL_law rfl rfl
theorem dL_law_1073 : decode cL_law 1073 = .ok (.iload_n 3, 1) := dqn_29 (k := 1189) qh_cL_law rfl rfl
theorem dL_law_1074 : decode cL_law 1074 = .ok (.iconst 1, 1) := dqn_4 (k := 1188) qh_cL_law rfl rfl
theorem dL_law_1075 : decode cL_law 1075 = .ok (.iadd, 1) := dqn_96 (k := 1187) qh_cL_law rfl rfl
theorem dL_law_1076 : decode cL_law 1076 = .ok (.iaload, 1) := dqn_46 (k := 1186) qh_cL_law rfl rfl
theorem dL_law_1077 : decode cL_law 1077 = .ok (.aload_n 0, 1) := dqn_42 (k := 1185) qh_cL_law rfl rfl
theorem dL_law_1078 : decode cL_law 1078 = .ok (.iload_n 3, 1) := dqn_29 (k := 1184) qh_cL_law rfl rfl
theorem dL_law_1079 : decode cL_law 1079 = .ok (.iconst 2, 1) := dqn_5 (k := 1183) qh_cL_law rfl rfl
theorem dL_law_1080 : decode cL_law 1080 = .ok (.iadd, 1) := dqn_96 (k := 1182) qh_cL_law rfl rfl
theorem dL_law_1081 : decode cL_law 1081 = .ok (.iaload, 1) := dqn_46 (k := 1181) qh_cL_law rfl rfl
theorem dL_law_1082 : decode cL_law 1082 = .ok (.aload_n 0, 1) := dqn_42 (k := 1180) qh_cL_law rfl rfl
theorem dL_law_1083 : decode cL_law 1083 = .ok (.iload_n 3, 1) := dqn_29 (k := 1179) qh_cL_law rfl rfl
theorem dL_law_1084 : decode cL_law 1084 = .ok (.iconst 3, 1) := dqn_6 (k := 1178) qh_cL_law rfl rfl
theorem dL_law_1085 : decode cL_law 1085 = .ok (.iadd, 1) := dqn_96 (k := 1177) qh_cL_law rfl rfl
theorem dL_law_1086 : decode cL_law 1086 = .ok (.iaload, 1) := dqn_46 (k := 1176) qh_cL_law rfl rfl
theorem dL_law_1087 : decode cL_law 1087 = .ok (.aload_n 0, 1) := dqn_42 (k := 1175) qh_cL_law rfl rfl
theorem dL_law_1088 : decode cL_law 1088 = .ok (.iload_n 3, 1) := dqn_29 (k := 1174) qh_cL_law rfl rfl
theorem dL_law_1089 : decode cL_law 1089 = .ok (.iconst 4, 1) := dqn_7 (k := 1173) qh_cL_law rfl rfl
theorem dL_law_1090 : decode cL_law 1090 = .ok (.iadd, 1) := dqn_96 (k := 1172) qh_cL_law rfl rfl
theorem dL_law_1091 : decode cL_law 1091 = .ok (.iaload, 1) := dqn_46 (k := 1171) qh_cL_law rfl rfl
theorem dL_law_1092 : decode cL_law 1092 = .ok (.invokevirtual 96, 3) := dqn_182 (k := 1168) qh_cL_law rfl rfl rfl
theorem dL_law_1095 : decode cL_law 1095 = .ok (.pop2, 1) := dqn_88 (k := 1167) qh_cL_law rfl rfl
theorem dL_law_1096 : decode cL_law 1096 = .ok (.goto 1159, 3) := dqn_167 (k := 1164) (u := 1159) qh_cL_law rfl rfl rfl (sg_p rfl rfl)
theorem dL_law_1099 : decode cL_law 1099 = .ok (.aload_n 1, 1) := dqn_43 (k := 1163) qh_cL_law rfl rfl
theorem dL_law_1100 : decode cL_law 1100 = .ok (.aload_n 0, 1) := dqn_42 (k := 1162) qh_cL_law rfl rfl
theorem dL_law_1101 : decode cL_law 1101 = .ok (.iload_n 3, 1) := dqn_29 (k := 1161) qh_cL_law rfl rfl
theorem dL_law_1102 : decode cL_law 1102 = .ok (.iconst 1, 1) := dqn_4 (k := 1160) qh_cL_law rfl rfl
theorem dL_law_1103 : decode cL_law 1103 = .ok (.iadd, 1) := dqn_96 (k := 1159) qh_cL_law rfl rfl
theorem dL_law_1104 : decode cL_law 1104 = .ok (.iaload, 1) := dqn_46 (k := 1158) qh_cL_law rfl rfl
theorem dL_law_1105 : decode cL_law 1105 = .ok (.aload_n 0, 1) := dqn_42 (k := 1157) qh_cL_law rfl rfl
theorem dL_law_1106 : decode cL_law 1106 = .ok (.iload_n 3, 1) := dqn_29 (k := 1156) qh_cL_law rfl rfl
theorem dL_law_1107 : decode cL_law 1107 = .ok (.iconst 2, 1) := dqn_5 (k := 1155) qh_cL_law rfl rfl
theorem dL_law_1108 : decode cL_law 1108 = .ok (.iadd, 1) := dqn_96 (k := 1154) qh_cL_law rfl rfl
theorem dL_law_1109 : decode cL_law 1109 = .ok (.iaload, 1) := dqn_46 (k := 1153) qh_cL_law rfl rfl
theorem dL_law_1110 : decode cL_law 1110 = .ok (.aload_n 0, 1) := dqn_42 (k := 1152) qh_cL_law rfl rfl
theorem dL_law_1111 : decode cL_law 1111 = .ok (.iload_n 3, 1) := dqn_29 (k := 1151) qh_cL_law rfl rfl
theorem dL_law_1112 : decode cL_law 1112 = .ok (.iconst 3, 1) := dqn_6 (k := 1150) qh_cL_law rfl rfl
theorem dL_law_1113 : decode cL_law 1113 = .ok (.iadd, 1) := dqn_96 (k := 1149) qh_cL_law rfl rfl
theorem dL_law_1114 : decode cL_law 1114 = .ok (.iaload, 1) := dqn_46 (k := 1148) qh_cL_law rfl rfl
theorem dL_law_1115 : decode cL_law 1115 = .ok (.invokevirtual 97, 3) := dqn_182 (k := 1145) qh_cL_law rfl rfl rfl
theorem dL_law_1118 : decode cL_law 1118 = .ok (.pop2, 1) := dqn_88 (k := 1144) qh_cL_law rfl rfl
theorem dL_law_1119 : decode cL_law 1119 = .ok (.aload_n 2, 1) := dqn_44 (k := 1143) qh_cL_law rfl rfl
theorem dL_law_1120 : decode cL_law 1120 = .ok (.aload_n 0, 1) := dqn_42 (k := 1142) qh_cL_law rfl rfl
theorem dL_law_1121 : decode cL_law 1121 = .ok (.iload_n 3, 1) := dqn_29 (k := 1141) qh_cL_law rfl rfl
theorem dL_law_1122 : decode cL_law 1122 = .ok (.iconst 1, 1) := dqn_4 (k := 1140) qh_cL_law rfl rfl
theorem dL_law_1123 : decode cL_law 1123 = .ok (.iadd, 1) := dqn_96 (k := 1139) qh_cL_law rfl rfl
theorem dL_law_1124 : decode cL_law 1124 = .ok (.iaload, 1) := dqn_46 (k := 1138) qh_cL_law rfl rfl
theorem dL_law_1125 : decode cL_law 1125 = .ok (.aload_n 0, 1) := dqn_42 (k := 1137) qh_cL_law rfl rfl
theorem dL_law_1126 : decode cL_law 1126 = .ok (.iload_n 3, 1) := dqn_29 (k := 1136) qh_cL_law rfl rfl
theorem dL_law_1127 : decode cL_law 1127 = .ok (.iconst 2, 1) := dqn_5 (k := 1135) qh_cL_law rfl rfl
theorem dL_law_1128 : decode cL_law 1128 = .ok (.iadd, 1) := dqn_96 (k := 1134) qh_cL_law rfl rfl
theorem dL_law_1129 : decode cL_law 1129 = .ok (.iaload, 1) := dqn_46 (k := 1133) qh_cL_law rfl rfl
theorem dL_law_1130 : decode cL_law 1130 = .ok (.aload_n 0, 1) := dqn_42 (k := 1132) qh_cL_law rfl rfl
theorem dL_law_1131 : decode cL_law 1131 = .ok (.iload_n 3, 1) := dqn_29 (k := 1131) qh_cL_law rfl rfl
theorem dL_law_1132 : decode cL_law 1132 = .ok (.iconst 3, 1) := dqn_6 (k := 1130) qh_cL_law rfl rfl
theorem dL_law_1133 : decode cL_law 1133 = .ok (.iadd, 1) := dqn_96 (k := 1129) qh_cL_law rfl rfl
theorem dL_law_1134 : decode cL_law 1134 = .ok (.iaload, 1) := dqn_46 (k := 1128) qh_cL_law rfl rfl
theorem dL_law_1135 : decode cL_law 1135 = .ok (.invokevirtual 100, 3) := dqn_182 (k := 1125) qh_cL_law rfl rfl rfl
theorem dL_law_1138 : decode cL_law 1138 = .ok (.pop2, 1) := dqn_88 (k := 1124) qh_cL_law rfl rfl
theorem dL_law_1139 : decode cL_law 1139 = .ok (.goto 1116, 3) := dqn_167 (k := 1121) (u := 1116) qh_cL_law rfl rfl rfl (sg_p rfl rfl)
theorem dL_law_1142 : decode cL_law 1142 = .ok (.aload_n 1, 1) := dqn_43 (k := 1120) qh_cL_law rfl rfl
theorem dL_law_1143 : decode cL_law 1143 = .ok (.aload_n 0, 1) := dqn_42 (k := 1119) qh_cL_law rfl rfl
theorem dL_law_1144 : decode cL_law 1144 = .ok (.iload_n 3, 1) := dqn_29 (k := 1118) qh_cL_law rfl rfl
theorem dL_law_1145 : decode cL_law 1145 = .ok (.iconst 1, 1) := dqn_4 (k := 1117) qh_cL_law rfl rfl
theorem dL_law_1146 : decode cL_law 1146 = .ok (.iadd, 1) := dqn_96 (k := 1116) qh_cL_law rfl rfl
theorem dL_law_1147 : decode cL_law 1147 = .ok (.iaload, 1) := dqn_46 (k := 1115) qh_cL_law rfl rfl
theorem dL_law_1148 : decode cL_law 1148 = .ok (.aload_n 0, 1) := dqn_42 (k := 1114) qh_cL_law rfl rfl
theorem dL_law_1149 : decode cL_law 1149 = .ok (.iload_n 3, 1) := dqn_29 (k := 1113) qh_cL_law rfl rfl
theorem dL_law_1150 : decode cL_law 1150 = .ok (.iconst 2, 1) := dqn_5 (k := 1112) qh_cL_law rfl rfl
theorem dL_law_1151 : decode cL_law 1151 = .ok (.iadd, 1) := dqn_96 (k := 1111) qh_cL_law rfl rfl
theorem dL_law_1152 : decode cL_law 1152 = .ok (.iaload, 1) := dqn_46 (k := 1110) qh_cL_law rfl rfl
theorem dL_law_1153 : decode cL_law 1153 = .ok (.aload_n 0, 1) := dqn_42 (k := 1109) qh_cL_law rfl rfl
theorem dL_law_1154 : decode cL_law 1154 = .ok (.iload_n 3, 1) := dqn_29 (k := 1108) qh_cL_law rfl rfl
theorem dL_law_1155 : decode cL_law 1155 = .ok (.iconst 3, 1) := dqn_6 (k := 1107) qh_cL_law rfl rfl
theorem dL_law_1156 : decode cL_law 1156 = .ok (.iadd, 1) := dqn_96 (k := 1106) qh_cL_law rfl rfl
theorem dL_law_1157 : decode cL_law 1157 = .ok (.iaload, 1) := dqn_46 (k := 1105) qh_cL_law rfl rfl
theorem dL_law_1158 : decode cL_law 1158 = .ok (.aload_n 0, 1) := dqn_42 (k := 1104) qh_cL_law rfl rfl
theorem dL_law_1159 : decode cL_law 1159 = .ok (.iload_n 3, 1) := dqn_29 (k := 1103) qh_cL_law rfl rfl
theorem dL_law_1160 : decode cL_law 1160 = .ok (.iconst 4, 1) := dqn_7 (k := 1102) qh_cL_law rfl rfl
theorem dL_law_1161 : decode cL_law 1161 = .ok (.iadd, 1) := dqn_96 (k := 1101) qh_cL_law rfl rfl
theorem dL_law_1162 : decode cL_law 1162 = .ok (.iaload, 1) := dqn_46 (k := 1100) qh_cL_law rfl rfl
theorem dL_law_1163 : decode cL_law 1163 = .ok (.invokevirtual 101, 3) := dqn_182 (k := 1097) qh_cL_law rfl rfl rfl
theorem dL_law_1166 : decode cL_law 1166 = .ok (.pop2, 1) := dqn_88 (k := 1096) qh_cL_law rfl rfl
theorem dL_law_1167 : decode cL_law 1167 = .ok (.aload_n 2, 1) := dqn_44 (k := 1095) qh_cL_law rfl rfl
theorem dL_law_1168 : decode cL_law 1168 = .ok (.aload_n 0, 1) := dqn_42 (k := 1094) qh_cL_law rfl rfl
theorem dL_law_1169 : decode cL_law 1169 = .ok (.iload_n 3, 1) := dqn_29 (k := 1093) qh_cL_law rfl rfl
theorem dL_law_1170 : decode cL_law 1170 = .ok (.iconst 1, 1) := dqn_4 (k := 1092) qh_cL_law rfl rfl
theorem dL_law_1171 : decode cL_law 1171 = .ok (.iadd, 1) := dqn_96 (k := 1091) qh_cL_law rfl rfl
theorem dL_law_1172 : decode cL_law 1172 = .ok (.iaload, 1) := dqn_46 (k := 1090) qh_cL_law rfl rfl
theorem dL_law_1173 : decode cL_law 1173 = .ok (.aload_n 0, 1) := dqn_42 (k := 1089) qh_cL_law rfl rfl
theorem dL_law_1174 : decode cL_law 1174 = .ok (.iload_n 3, 1) := dqn_29 (k := 1088) qh_cL_law rfl rfl
theorem dL_law_1175 : decode cL_law 1175 = .ok (.iconst 2, 1) := dqn_5 (k := 1087) qh_cL_law rfl rfl
theorem dL_law_1176 : decode cL_law 1176 = .ok (.iadd, 1) := dqn_96 (k := 1086) qh_cL_law rfl rfl
theorem dL_law_1177 : decode cL_law 1177 = .ok (.iaload, 1) := dqn_46 (k := 1085) qh_cL_law rfl rfl
theorem dL_law_1178 : decode cL_law 1178 = .ok (.aload_n 0, 1) := dqn_42 (k := 1084) qh_cL_law rfl rfl
theorem dL_law_1179 : decode cL_law 1179 = .ok (.iload_n 3, 1) := dqn_29 (k := 1083) qh_cL_law rfl rfl
theorem dL_law_1180 : decode cL_law 1180 = .ok (.iconst 3, 1) := dqn_6 (k := 1082) qh_cL_law rfl rfl
theorem dL_law_1181 : decode cL_law 1181 = .ok (.iadd, 1) := dqn_96 (k := 1081) qh_cL_law rfl rfl
theorem dL_law_1182 : decode cL_law 1182 = .ok (.iaload, 1) := dqn_46 (k := 1080) qh_cL_law rfl rfl
theorem dL_law_1183 : decode cL_law 1183 = .ok (.aload_n 0, 1) := dqn_42 (k := 1079) qh_cL_law rfl rfl
theorem dL_law_1184 : decode cL_law 1184 = .ok (.iload_n 3, 1) := dqn_29 (k := 1078) qh_cL_law rfl rfl
theorem dL_law_1185 : decode cL_law 1185 = .ok (.iconst 4, 1) := dqn_7 (k := 1077) qh_cL_law rfl rfl
theorem dL_law_1186 : decode cL_law 1186 = .ok (.iadd, 1) := dqn_96 (k := 1076) qh_cL_law rfl rfl
theorem dL_law_1187 : decode cL_law 1187 = .ok (.iaload, 1) := dqn_46 (k := 1075) qh_cL_law rfl rfl
theorem dL_law_1188 : decode cL_law 1188 = .ok (.invokevirtual 104, 3) := dqn_182 (k := 1072) qh_cL_law rfl rfl rfl
theorem dL_law_1191 : decode cL_law 1191 = .ok (.pop2, 1) := dqn_88 (k := 1071) qh_cL_law rfl rfl
theorem dL_law_1192 : decode cL_law 1192 = .ok (.goto 1063, 3) := dqn_167 (k := 1068) (u := 1063) qh_cL_law rfl rfl rfl (sg_p rfl rfl)
theorem dL_law_1195 : decode cL_law 1195 = .ok (.aload_n 1, 1) := dqn_43 (k := 1067) qh_cL_law rfl rfl
theorem dL_law_1196 : decode cL_law 1196 = .ok (.aload_n 0, 1) := dqn_42 (k := 1066) qh_cL_law rfl rfl
theorem dL_law_1197 : decode cL_law 1197 = .ok (.iload_n 3, 1) := dqn_29 (k := 1065) qh_cL_law rfl rfl
theorem dL_law_1198 : decode cL_law 1198 = .ok (.iconst 1, 1) := dqn_4 (k := 1064) qh_cL_law rfl rfl
theorem dL_law_1199 : decode cL_law 1199 = .ok (.iadd, 1) := dqn_96 (k := 1063) qh_cL_law rfl rfl
theorem dL_law_1200 : decode cL_law 1200 = .ok (.iaload, 1) := dqn_46 (k := 1062) qh_cL_law rfl rfl
theorem dL_law_1201 : decode cL_law 1201 = .ok (.aload_n 0, 1) := dqn_42 (k := 1061) qh_cL_law rfl rfl
theorem dL_law_1202 : decode cL_law 1202 = .ok (.iload_n 3, 1) := dqn_29 (k := 1060) qh_cL_law rfl rfl
theorem dL_law_1203 : decode cL_law 1203 = .ok (.iconst 2, 1) := dqn_5 (k := 1059) qh_cL_law rfl rfl
theorem dL_law_1204 : decode cL_law 1204 = .ok (.iadd, 1) := dqn_96 (k := 1058) qh_cL_law rfl rfl
theorem dL_law_1205 : decode cL_law 1205 = .ok (.iaload, 1) := dqn_46 (k := 1057) qh_cL_law rfl rfl
theorem dL_law_1206 : decode cL_law 1206 = .ok (.aload_n 0, 1) := dqn_42 (k := 1056) qh_cL_law rfl rfl
theorem dL_law_1207 : decode cL_law 1207 = .ok (.iload_n 3, 1) := dqn_29 (k := 1055) qh_cL_law rfl rfl
theorem dL_law_1208 : decode cL_law 1208 = .ok (.iconst 3, 1) := dqn_6 (k := 1054) qh_cL_law rfl rfl
theorem dL_law_1209 : decode cL_law 1209 = .ok (.iadd, 1) := dqn_96 (k := 1053) qh_cL_law rfl rfl
theorem dL_law_1210 : decode cL_law 1210 = .ok (.iaload, 1) := dqn_46 (k := 1052) qh_cL_law rfl rfl
theorem dL_law_1211 : decode cL_law 1211 = .ok (.aload_n 0, 1) := dqn_42 (k := 1051) qh_cL_law rfl rfl
end
section
theorem dL_law_1212 : decode cL_law 1212 = .ok (.iload_n 3, 1) := dqn_29 (k := 1050) qh_cL_law rfl rfl
theorem dL_law_1213 : decode cL_law 1213 = .ok (.iconst 4, 1) := dqn_7 (k := 1049) qh_cL_law rfl rfl
theorem dL_law_1214 : decode cL_law 1214 = .ok (.iadd, 1) := dqn_96 (k := 1048) qh_cL_law rfl rfl
theorem dL_law_1215 : decode cL_law 1215 = .ok (.iaload, 1) := dqn_46 (k := 1047) qh_cL_law rfl rfl
theorem dL_law_1216 : decode cL_law 1216 = .ok (.ifCond .eq 7, 3) := dqn_153 (k := 1044) (u := 7) qh_cL_law rfl rfl rfl (sg_p rfl rfl)
theorem dL_law_1219 : decode cL_law 1219 = .ok (.iconst 1, 1) := dqn_4 (k := 1043) qh_cL_law rfl rfl
theorem dL_law_1220 : decode cL_law 1220 = .ok (.goto 4, 3) := dqn_167 (k := 1040) (u := 4) qh_cL_law rfl rfl rfl (sg_p rfl rfl)
theorem dL_law_1223 : decode cL_law 1223 = .ok (.iconst 0, 1) := dqn_3 (k := 1039) qh_cL_law rfl rfl
theorem dL_law_1224 : decode cL_law 1224 = .ok (.invokevirtual 105, 3) := dqn_182 (k := 1036) qh_cL_law rfl rfl rfl
theorem dL_law_1227 : decode cL_law 1227 = .ok (.pop2, 1) := dqn_88 (k := 1035) qh_cL_law rfl rfl
theorem dL_law_1228 : decode cL_law 1228 = .ok (.aload_n 2, 1) := dqn_44 (k := 1034) qh_cL_law rfl rfl
theorem dL_law_1229 : decode cL_law 1229 = .ok (.aload_n 0, 1) := dqn_42 (k := 1033) qh_cL_law rfl rfl
theorem dL_law_1230 : decode cL_law 1230 = .ok (.iload_n 3, 1) := dqn_29 (k := 1032) qh_cL_law rfl rfl
theorem dL_law_1231 : decode cL_law 1231 = .ok (.iconst 1, 1) := dqn_4 (k := 1031) qh_cL_law rfl rfl
theorem dL_law_1232 : decode cL_law 1232 = .ok (.iadd, 1) := dqn_96 (k := 1030) qh_cL_law rfl rfl
theorem dL_law_1233 : decode cL_law 1233 = .ok (.iaload, 1) := dqn_46 (k := 1029) qh_cL_law rfl rfl
theorem dL_law_1234 : decode cL_law 1234 = .ok (.aload_n 0, 1) := dqn_42 (k := 1028) qh_cL_law rfl rfl
theorem dL_law_1235 : decode cL_law 1235 = .ok (.iload_n 3, 1) := dqn_29 (k := 1027) qh_cL_law rfl rfl
theorem dL_law_1236 : decode cL_law 1236 = .ok (.iconst 2, 1) := dqn_5 (k := 1026) qh_cL_law rfl rfl
theorem dL_law_1237 : decode cL_law 1237 = .ok (.iadd, 1) := dqn_96 (k := 1025) qh_cL_law rfl rfl
theorem dL_law_1238 : decode cL_law 1238 = .ok (.iaload, 1) := dqn_46 (k := 1024) qh_cL_law rfl rfl
theorem dL_law_1239 : decode cL_law 1239 = .ok (.aload_n 0, 1) := dqn_42 (k := 1023) qh_cL_law rfl rfl
theorem dL_law_1240 : decode cL_law 1240 = .ok (.iload_n 3, 1) := dqn_29 (k := 1022) qh_cL_law rfl rfl
theorem dL_law_1241 : decode cL_law 1241 = .ok (.iconst 3, 1) := dqn_6 (k := 1021) qh_cL_law rfl rfl
theorem dL_law_1242 : decode cL_law 1242 = .ok (.iadd, 1) := dqn_96 (k := 1020) qh_cL_law rfl rfl
theorem dL_law_1243 : decode cL_law 1243 = .ok (.iaload, 1) := dqn_46 (k := 1019) qh_cL_law rfl rfl
theorem dL_law_1244 : decode cL_law 1244 = .ok (.aload_n 0, 1) := dqn_42 (k := 1018) qh_cL_law rfl rfl
theorem dL_law_1245 : decode cL_law 1245 = .ok (.iload_n 3, 1) := dqn_29 (k := 1017) qh_cL_law rfl rfl
theorem dL_law_1246 : decode cL_law 1246 = .ok (.iconst 4, 1) := dqn_7 (k := 1016) qh_cL_law rfl rfl
theorem dL_law_1247 : decode cL_law 1247 = .ok (.iadd, 1) := dqn_96 (k := 1015) qh_cL_law rfl rfl
theorem dL_law_1248 : decode cL_law 1248 = .ok (.iaload, 1) := dqn_46 (k := 1014) qh_cL_law rfl rfl
theorem dL_law_1249 : decode cL_law 1249 = .ok (.ifCond .eq 7, 3) := dqn_153 (k := 1011) (u := 7) qh_cL_law rfl rfl rfl (sg_p rfl rfl)
theorem dL_law_1252 : decode cL_law 1252 = .ok (.iconst 1, 1) := dqn_4 (k := 1010) qh_cL_law rfl rfl
theorem dL_law_1253 : decode cL_law 1253 = .ok (.goto 4, 3) := dqn_167 (k := 1007) (u := 4) qh_cL_law rfl rfl rfl (sg_p rfl rfl)
theorem dL_law_1256 : decode cL_law 1256 = .ok (.iconst 0, 1) := dqn_3 (k := 1006) qh_cL_law rfl rfl
theorem dL_law_1257 : decode cL_law 1257 = .ok (.invokevirtual 109, 3) := dqn_182 (k := 1003) qh_cL_law rfl rfl rfl
theorem dL_law_1260 : decode cL_law 1260 = .ok (.pop2, 1) := dqn_88 (k := 1002) qh_cL_law rfl rfl
theorem dL_law_1261 : decode cL_law 1261 = .ok (.goto 994, 3) := dqn_167 (k := 999) (u := 994) qh_cL_law rfl rfl rfl (sg_p rfl rfl)
theorem dL_law_1264 : decode cL_law 1264 = .ok (.aload_n 1, 1) := dqn_43 (k := 998) qh_cL_law rfl rfl
theorem dL_law_1265 : decode cL_law 1265 = .ok (.aload_n 0, 1) := dqn_42 (k := 997) qh_cL_law rfl rfl
theorem dL_law_1266 : decode cL_law 1266 = .ok (.iload_n 3, 1) := dqn_29 (k := 996) qh_cL_law rfl rfl
theorem dL_law_1267 : decode cL_law 1267 = .ok (.iconst 1, 1) := dqn_4 (k := 995) qh_cL_law rfl rfl
theorem dL_law_1268 : decode cL_law 1268 = .ok (.iadd, 1) := dqn_96 (k := 994) qh_cL_law rfl rfl
theorem dL_law_1269 : decode cL_law 1269 = .ok (.iaload, 1) := dqn_46 (k := 993) qh_cL_law rfl rfl
theorem dL_law_1270 : decode cL_law 1270 = .ok (.aload_n 0, 1) := dqn_42 (k := 992) qh_cL_law rfl rfl
theorem dL_law_1271 : decode cL_law 1271 = .ok (.iload_n 3, 1) := dqn_29 (k := 991) qh_cL_law rfl rfl
theorem dL_law_1272 : decode cL_law 1272 = .ok (.iconst 2, 1) := dqn_5 (k := 990) qh_cL_law rfl rfl
theorem dL_law_1273 : decode cL_law 1273 = .ok (.iadd, 1) := dqn_96 (k := 989) qh_cL_law rfl rfl
theorem dL_law_1274 : decode cL_law 1274 = .ok (.iaload, 1) := dqn_46 (k := 988) qh_cL_law rfl rfl
theorem dL_law_1275 : decode cL_law 1275 = .ok (.aload_n 0, 1) := dqn_42 (k := 987) qh_cL_law rfl rfl
theorem dL_law_1276 : decode cL_law 1276 = .ok (.iload_n 3, 1) := dqn_29 (k := 986) qh_cL_law rfl rfl
theorem dL_law_1277 : decode cL_law 1277 = .ok (.iconst 3, 1) := dqn_6 (k := 985) qh_cL_law rfl rfl
theorem dL_law_1278 : decode cL_law 1278 = .ok (.iadd, 1) := dqn_96 (k := 984) qh_cL_law rfl rfl
theorem dL_law_1279 : decode cL_law 1279 = .ok (.iaload, 1) := dqn_46 (k := 983) qh_cL_law rfl rfl
theorem dL_law_1280 : decode cL_law 1280 = .ok (.aload_n 0, 1) := dqn_42 (k := 982) qh_cL_law rfl rfl
theorem dL_law_1281 : decode cL_law 1281 = .ok (.iload_n 3, 1) := dqn_29 (k := 981) qh_cL_law rfl rfl
theorem dL_law_1282 : decode cL_law 1282 = .ok (.iconst 4, 1) := dqn_7 (k := 980) qh_cL_law rfl rfl
theorem dL_law_1283 : decode cL_law 1283 = .ok (.iadd, 1) := dqn_96 (k := 979) qh_cL_law rfl rfl
theorem dL_law_1284 : decode cL_law 1284 = .ok (.iaload, 1) := dqn_46 (k := 978) qh_cL_law rfl rfl
theorem dL_law_1285 : decode cL_law 1285 = .ok (.invokevirtual 110, 3) := dqn_182 (k := 975) qh_cL_law rfl rfl rfl
theorem dL_law_1288 : decode cL_law 1288 = .ok (.pop, 1) := dqn_87 (k := 974) qh_cL_law rfl rfl
theorem dL_law_1289 : decode cL_law 1289 = .ok (.aload_n 2, 1) := dqn_44 (k := 973) qh_cL_law rfl rfl
theorem dL_law_1290 : decode cL_law 1290 = .ok (.aload_n 0, 1) := dqn_42 (k := 972) qh_cL_law rfl rfl
theorem dL_law_1291 : decode cL_law 1291 = .ok (.iload_n 3, 1) := dqn_29 (k := 971) qh_cL_law rfl rfl
theorem dL_law_1292 : decode cL_law 1292 = .ok (.iconst 1, 1) := dqn_4 (k := 970) qh_cL_law rfl rfl
theorem dL_law_1293 : decode cL_law 1293 = .ok (.iadd, 1) := dqn_96 (k := 969) qh_cL_law rfl rfl
theorem dL_law_1294 : decode cL_law 1294 = .ok (.iaload, 1) := dqn_46 (k := 968) qh_cL_law rfl rfl
theorem dL_law_1295 : decode cL_law 1295 = .ok (.aload_n 0, 1) := dqn_42 (k := 967) qh_cL_law rfl rfl
theorem dL_law_1296 : decode cL_law 1296 = .ok (.iload_n 3, 1) := dqn_29 (k := 966) qh_cL_law rfl rfl
theorem dL_law_1297 : decode cL_law 1297 = .ok (.iconst 2, 1) := dqn_5 (k := 965) qh_cL_law rfl rfl
theorem dL_law_1298 : decode cL_law 1298 = .ok (.iadd, 1) := dqn_96 (k := 964) qh_cL_law rfl rfl
theorem dL_law_1299 : decode cL_law 1299 = .ok (.iaload, 1) := dqn_46 (k := 963) qh_cL_law rfl rfl
theorem dL_law_1300 : decode cL_law 1300 = .ok (.aload_n 0, 1) := dqn_42 (k := 962) qh_cL_law rfl rfl
theorem dL_law_1301 : decode cL_law 1301 = .ok (.iload_n 3, 1) := dqn_29 (k := 961) qh_cL_law rfl rfl
theorem dL_law_1302 : decode cL_law 1302 = .ok (.iconst 3, 1) := dqn_6 (k := 960) qh_cL_law rfl rfl
theorem dL_law_1303 : decode cL_law 1303 = .ok (.iadd, 1) := dqn_96 (k := 959) qh_cL_law rfl rfl
theorem dL_law_1304 : decode cL_law 1304 = .ok (.iaload, 1) := dqn_46 (k := 958) qh_cL_law rfl rfl
theorem dL_law_1305 : decode cL_law 1305 = .ok (.aload_n 0, 1) := dqn_42 (k := 957) qh_cL_law rfl rfl
theorem dL_law_1306 : decode cL_law 1306 = .ok (.iload_n 3, 1) := dqn_29 (k := 956) qh_cL_law rfl rfl
theorem dL_law_1307 : decode cL_law 1307 = .ok (.iconst 4, 1) := dqn_7 (k := 955) qh_cL_law rfl rfl
theorem dL_law_1308 : decode cL_law 1308 = .ok (.iadd, 1) := dqn_96 (k := 954) qh_cL_law rfl rfl
theorem dL_law_1309 : decode cL_law 1309 = .ok (.iaload, 1) := dqn_46 (k := 953) qh_cL_law rfl rfl
theorem dL_law_1310 : decode cL_law 1310 = .ok (.invokevirtual 113, 3) := dqn_182 (k := 950) qh_cL_law rfl rfl rfl
theorem dL_law_1313 : decode cL_law 1313 = .ok (.pop, 1) := dqn_87 (k := 949) qh_cL_law rfl rfl
theorem dL_law_1314 : decode cL_law 1314 = .ok (.goto 941, 3) := dqn_167 (k := 946) (u := 941) qh_cL_law rfl rfl rfl (sg_p rfl rfl)
theorem dL_law_1317 : decode cL_law 1317 = .ok (.aload_n 1, 1) := dqn_43 (k := 945) qh_cL_law rfl rfl
theorem dL_law_1318 : decode cL_law 1318 = .ok (.aload_n 0, 1) := dqn_42 (k := 944) qh_cL_law rfl rfl
theorem dL_law_1319 : decode cL_law 1319 = .ok (.iload_n 3, 1) := dqn_29 (k := 943) qh_cL_law rfl rfl
theorem dL_law_1320 : decode cL_law 1320 = .ok (.iconst 1, 1) := dqn_4 (k := 942) qh_cL_law rfl rfl
theorem dL_law_1321 : decode cL_law 1321 = .ok (.iadd, 1) := dqn_96 (k := 941) qh_cL_law rfl rfl
theorem dL_law_1322 : decode cL_law 1322 = .ok (.iaload, 1) := dqn_46 (k := 940) qh_cL_law rfl rfl
theorem dL_law_1323 : decode cL_law 1323 = .ok (.aload_n 0, 1) := dqn_42 (k := 939) qh_cL_law rfl rfl
theorem dL_law_1324 : decode cL_law 1324 = .ok (.iload_n 3, 1) := dqn_29 (k := 938) qh_cL_law rfl rfl
theorem dL_law_1325 : decode cL_law 1325 = .ok (.iconst 2, 1) := dqn_5 (k := 937) qh_cL_law rfl rfl
theorem dL_law_1326 : decode cL_law 1326 = .ok (.iadd, 1) := dqn_96 (k := 936) qh_cL_law rfl rfl
theorem dL_law_1327 : decode cL_law 1327 = .ok (.iaload, 1) := dqn_46 (k := 935) qh_cL_law rfl rfl
theorem dL_law_1328 : decode cL_law 1328 = .ok (.aload_n 0, 1) := dqn_42 (k := 934) qh_cL_law rfl rfl
theorem dL_law_1329 : decode cL_law 1329 = .ok (.iload_n 3, 1) := dqn_29 (k := 933) qh_cL_law rfl rfl
theorem dL_law_1330 : decode cL_law 1330 = .ok (.iconst 3, 1) := dqn_6 (k := 932) qh_cL_law rfl rfl
theorem dL_law_1331 : decode cL_law 1331 = .ok (.iadd, 1) := dqn_96 (k := 931) qh_cL_law rfl rfl
theorem dL_law_1332 : decode cL_law 1332 = .ok (.iaload, 1) := dqn_46 (k := 930) qh_cL_law rfl rfl
theorem dL_law_1333 : decode cL_law 1333 = .ok (.aload_n 0, 1) := dqn_42 (k := 929) qh_cL_law rfl rfl
theorem dL_law_1334 : decode cL_law 1334 = .ok (.iload_n 3, 1) := dqn_29 (k := 928) qh_cL_law rfl rfl
theorem dL_law_1335 : decode cL_law 1335 = .ok (.iconst 4, 1) := dqn_7 (k := 927) qh_cL_law rfl rfl
theorem dL_law_1336 : decode cL_law 1336 = .ok (.iadd, 1) := dqn_96 (k := 926) qh_cL_law rfl rfl
theorem dL_law_1337 : decode cL_law 1337 = .ok (.iaload, 1) := dqn_46 (k := 925) qh_cL_law rfl rfl
theorem dL_law_1338 : decode cL_law 1338 = .ok (.ifCond .eq 7, 3) := dqn_153 (k := 922) (u := 7) qh_cL_law rfl rfl rfl (sg_p rfl rfl)
theorem dL_law_1341 : decode cL_law 1341 = .ok (.iconst 1, 1) := dqn_4 (k := 921) qh_cL_law rfl rfl
theorem dL_law_1342 : decode cL_law 1342 = .ok (.goto 4, 3) := dqn_167 (k := 918) (u := 4) qh_cL_law rfl rfl rfl (sg_p rfl rfl)
theorem dL_law_1345 : decode cL_law 1345 = .ok (.iconst 0, 1) := dqn_3 (k := 917) qh_cL_law rfl rfl
theorem dL_law_1346 : decode cL_law 1346 = .ok (.invokevirtual 114, 3) := dqn_182 (k := 914) qh_cL_law rfl rfl rfl
theorem dL_law_1349 : decode cL_law 1349 = .ok (.pop, 1) := dqn_87 (k := 913) qh_cL_law rfl rfl
theorem dL_law_1350 : decode cL_law 1350 = .ok (.aload_n 2, 1) := dqn_44 (k := 912) qh_cL_law rfl rfl
theorem dL_law_1351 : decode cL_law 1351 = .ok (.aload_n 0, 1) := dqn_42 (k := 911) qh_cL_law rfl rfl
theorem dL_law_1352 : decode cL_law 1352 = .ok (.iload_n 3, 1) := dqn_29 (k := 910) qh_cL_law rfl rfl
theorem dL_law_1353 : decode cL_law 1353 = .ok (.iconst 1, 1) := dqn_4 (k := 909) qh_cL_law rfl rfl
theorem dL_law_1354 : decode cL_law 1354 = .ok (.iadd, 1) := dqn_96 (k := 908) qh_cL_law rfl rfl
theorem dL_law_1355 : decode cL_law 1355 = .ok (.iaload, 1) := dqn_46 (k := 907) qh_cL_law rfl rfl
theorem dL_law_1356 : decode cL_law 1356 = .ok (.aload_n 0, 1) := dqn_42 (k := 906) qh_cL_law rfl rfl
theorem dL_law_1357 : decode cL_law 1357 = .ok (.iload_n 3, 1) := dqn_29 (k := 905) qh_cL_law rfl rfl
theorem dL_law_1358 : decode cL_law 1358 = .ok (.iconst 2, 1) := dqn_5 (k := 904) qh_cL_law rfl rfl
theorem dL_law_1359 : decode cL_law 1359 = .ok (.iadd, 1) := dqn_96 (k := 903) qh_cL_law rfl rfl
theorem dL_law_1360 : decode cL_law 1360 = .ok (.iaload, 1) := dqn_46 (k := 902) qh_cL_law rfl rfl
theorem dL_law_1361 : decode cL_law 1361 = .ok (.aload_n 0, 1) := dqn_42 (k := 901) qh_cL_law rfl rfl
theorem dL_law_1362 : decode cL_law 1362 = .ok (.iload_n 3, 1) := dqn_29 (k := 900) qh_cL_law rfl rfl
theorem dL_law_1363 : decode cL_law 1363 = .ok (.iconst 3, 1) := dqn_6 (k := 899) qh_cL_law rfl rfl
theorem dL_law_1364 : decode cL_law 1364 = .ok (.iadd, 1) := dqn_96 (k := 898) qh_cL_law rfl rfl
theorem dL_law_1365 : decode cL_law 1365 = .ok (.iaload, 1) := dqn_46 (k := 897) qh_cL_law rfl rfl
theorem dL_law_1366 : decode cL_law 1366 = .ok (.aload_n 0, 1) := dqn_42 (k := 896) qh_cL_law rfl rfl
theorem dL_law_1367 : decode cL_law 1367 = .ok (.iload_n 3, 1) := dqn_29 (k := 895) qh_cL_law rfl rfl
theorem dL_law_1368 : decode cL_law 1368 = .ok (.iconst 4, 1) := dqn_7 (k := 894) qh_cL_law rfl rfl
theorem dL_law_1369 : decode cL_law 1369 = .ok (.iadd, 1) := dqn_96 (k := 893) qh_cL_law rfl rfl
theorem dL_law_1370 : decode cL_law 1370 = .ok (.iaload, 1) := dqn_46 (k := 892) qh_cL_law rfl rfl
theorem dL_law_1371 : decode cL_law 1371 = .ok (.ifCond .eq 7, 3) := dqn_153 (k := 889) (u := 7) qh_cL_law rfl rfl rfl (sg_p rfl rfl)
theorem dL_law_1374 : decode cL_law 1374 = .ok (.iconst 1, 1) := dqn_4 (k := 888) qh_cL_law rfl rfl
theorem dL_law_1375 : decode cL_law 1375 = .ok (.goto 4, 3) := dqn_167 (k := 885) (u := 4) qh_cL_law rfl rfl rfl (sg_p rfl rfl)
theorem dL_law_1378 : decode cL_law 1378 = .ok (.iconst 0, 1) := dqn_3 (k := 884) qh_cL_law rfl rfl
theorem dL_law_1379 : decode cL_law 1379 = .ok (.invokevirtual 118, 3) := dqn_182 (k := 881) qh_cL_law rfl rfl rfl
theorem dL_law_1382 : decode cL_law 1382 = .ok (.pop, 1) := dqn_87 (k := 880) qh_cL_law rfl rfl
theorem dL_law_1383 : decode cL_law 1383 = .ok (.goto 872, 3) := dqn_167 (k := 877) (u := 872) qh_cL_law rfl rfl rfl (sg_p rfl rfl)
theorem dL_law_1386 : decode cL_law 1386 = .ok (.aload_n 1, 1) := dqn_43 (k := 876) qh_cL_law rfl rfl
theorem dL_law_1387 : decode cL_law 1387 = .ok (.aload_n 0, 1) := dqn_42 (k := 875) qh_cL_law rfl rfl
theorem dL_law_1388 : decode cL_law 1388 = .ok (.iload_n 3, 1) := dqn_29 (k := 874) qh_cL_law rfl rfl
theorem dL_law_1389 : decode cL_law 1389 = .ok (.iconst 1, 1) := dqn_4 (k := 873) qh_cL_law rfl rfl
theorem dL_law_1390 : decode cL_law 1390 = .ok (.iadd, 1) := dqn_96 (k := 872) qh_cL_law rfl rfl
theorem dL_law_1391 : decode cL_law 1391 = .ok (.iaload, 1) := dqn_46 (k := 871) qh_cL_law rfl rfl
theorem dL_law_1392 : decode cL_law 1392 = .ok (.aload_n 0, 1) := dqn_42 (k := 870) qh_cL_law rfl rfl
theorem dL_law_1393 : decode cL_law 1393 = .ok (.iload_n 3, 1) := dqn_29 (k := 869) qh_cL_law rfl rfl
theorem dL_law_1394 : decode cL_law 1394 = .ok (.iconst 2, 1) := dqn_5 (k := 868) qh_cL_law rfl rfl
theorem dL_law_1395 : decode cL_law 1395 = .ok (.iadd, 1) := dqn_96 (k := 867) qh_cL_law rfl rfl
theorem dL_law_1396 : decode cL_law 1396 = .ok (.iaload, 1) := dqn_46 (k := 866) qh_cL_law rfl rfl
theorem dL_law_1397 : decode cL_law 1397 = .ok (.invokevirtual 119, 3) := dqn_182 (k := 863) qh_cL_law rfl rfl rfl
theorem dL_law_1400 : decode cL_law 1400 = .ok (.pop, 1) := dqn_87 (k := 862) qh_cL_law rfl rfl
theorem dL_law_1401 : decode cL_law 1401 = .ok (.aload_n 2, 1) := dqn_44 (k := 861) qh_cL_law rfl rfl
theorem dL_law_1402 : decode cL_law 1402 = .ok (.aload_n 0, 1) := dqn_42 (k := 860) qh_cL_law rfl rfl
theorem dL_law_1403 : decode cL_law 1403 = .ok (.iload_n 3, 1) := dqn_29 (k := 859) qh_cL_law rfl rfl
theorem dL_law_1404 : decode cL_law 1404 = .ok (.iconst 1, 1) := dqn_4 (k := 858) qh_cL_law rfl rfl
theorem dL_law_1405 : decode cL_law 1405 = .ok (.iadd, 1) := dqn_96 (k := 857) qh_cL_law rfl rfl
theorem dL_law_1406 : decode cL_law 1406 = .ok (.iaload, 1) := dqn_46 (k := 856) qh_cL_law rfl rfl
theorem dL_law_1407 : decode cL_law 1407 = .ok (.aload_n 0, 1) := dqn_42 (k := 855) qh_cL_law rfl rfl
theorem dL_law_1408 : decode cL_law 1408 = .ok (.iload_n 3, 1) := dqn_29 (k := 854) qh_cL_law rfl rfl
theorem dL_law_1409 : decode cL_law 1409 = .ok (.iconst 2, 1) := dqn_5 (k := 853) qh_cL_law rfl rfl
theorem dL_law_1410 : decode cL_law 1410 = .ok (.iadd, 1) := dqn_96 (k := 852) qh_cL_law rfl rfl
theorem dL_law_1411 : decode cL_law 1411 = .ok (.iaload, 1) := dqn_46 (k := 851) qh_cL_law rfl rfl
theorem dL_law_1412 : decode cL_law 1412 = .ok (.invokevirtual 122, 3) := dqn_182 (k := 848) qh_cL_law rfl rfl rfl
theorem dL_law_1415 : decode cL_law 1415 = .ok (.pop, 1) := dqn_87 (k := 847) qh_cL_law rfl rfl
theorem dL_law_1416 : decode cL_law 1416 = .ok (.goto 839, 3) := dqn_167 (k := 844) (u := 839) qh_cL_law rfl rfl rfl (sg_p rfl rfl)
theorem dL_law_1419 : decode cL_law 1419 = .ok (.aload_n 1, 1) := dqn_43 (k := 843) qh_cL_law rfl rfl
theorem dL_law_1420 : decode cL_law 1420 = .ok (.aload_n 0, 1) := dqn_42 (k := 842) qh_cL_law rfl rfl
theorem dL_law_1421 : decode cL_law 1421 = .ok (.iload_n 3, 1) := dqn_29 (k := 841) qh_cL_law rfl rfl
theorem dL_law_1422 : decode cL_law 1422 = .ok (.iconst 1, 1) := dqn_4 (k := 840) qh_cL_law rfl rfl
theorem dL_law_1423 : decode cL_law 1423 = .ok (.iadd, 1) := dqn_96 (k := 839) qh_cL_law rfl rfl
theorem dL_law_1424 : decode cL_law 1424 = .ok (.iaload, 1) := dqn_46 (k := 838) qh_cL_law rfl rfl
theorem dL_law_1425 : decode cL_law 1425 = .ok (.aload_n 0, 1) := dqn_42 (k := 837) qh_cL_law rfl rfl
theorem dL_law_1426 : decode cL_law 1426 = .ok (.iload_n 3, 1) := dqn_29 (k := 836) qh_cL_law rfl rfl
theorem dL_law_1427 : decode cL_law 1427 = .ok (.iconst 2, 1) := dqn_5 (k := 835) qh_cL_law rfl rfl
theorem dL_law_1428 : decode cL_law 1428 = .ok (.iadd, 1) := dqn_96 (k := 834) qh_cL_law rfl rfl
theorem dL_law_1429 : decode cL_law 1429 = .ok (.iaload, 1) := dqn_46 (k := 833) qh_cL_law rfl rfl
theorem dL_law_1430 : decode cL_law 1430 = .ok (.aload_n 0, 1) := dqn_42 (k := 832) qh_cL_law rfl rfl
theorem dL_law_1431 : decode cL_law 1431 = .ok (.iload_n 3, 1) := dqn_29 (k := 831) qh_cL_law rfl rfl
theorem dL_law_1432 : decode cL_law 1432 = .ok (.iconst 3, 1) := dqn_6 (k := 830) qh_cL_law rfl rfl
theorem dL_law_1433 : decode cL_law 1433 = .ok (.iadd, 1) := dqn_96 (k := 829) qh_cL_law rfl rfl
theorem dL_law_1434 : decode cL_law 1434 = .ok (.iaload, 1) := dqn_46 (k := 828) qh_cL_law rfl rfl
theorem dL_law_1435 : decode cL_law 1435 = .ok (.aload_n 0, 1) := dqn_42 (k := 827) qh_cL_law rfl rfl
theorem dL_law_1436 : decode cL_law 1436 = .ok (.iload_n 3, 1) := dqn_29 (k := 826) qh_cL_law rfl rfl
theorem dL_law_1437 : decode cL_law 1437 = .ok (.iconst 4, 1) := dqn_7 (k := 825) qh_cL_law rfl rfl
theorem dL_law_1438 : decode cL_law 1438 = .ok (.iadd, 1) := dqn_96 (k := 824) qh_cL_law rfl rfl
theorem dL_law_1439 : decode cL_law 1439 = .ok (.iaload, 1) := dqn_46 (k := 823) qh_cL_law rfl rfl
theorem dL_law_1440 : decode cL_law 1440 = .ok (.aload_n 0, 1) := dqn_42 (k := 822) qh_cL_law rfl rfl
theorem dL_law_1441 : decode cL_law 1441 = .ok (.iload_n 3, 1) := dqn_29 (k := 821) qh_cL_law rfl rfl
theorem dL_law_1442 : decode cL_law 1442 = .ok (.iconst 5, 1) := dqn_8 (k := 820) qh_cL_law rfl rfl
theorem dL_law_1443 : decode cL_law 1443 = .ok (.iadd, 1) := dqn_96 (k := 819) qh_cL_law rfl rfl
theorem dL_law_1444 : decode cL_law 1444 = .ok (.iaload, 1) := dqn_46 (k := 818) qh_cL_law rfl rfl
theorem dL_law_1445 : decode cL_law 1445 = .ok (.invokevirtual 123, 3) := dqn_182 (k := 815) qh_cL_law rfl rfl rfl
theorem dL_law_1448 : decode cL_law 1448 = .ok (.pop2, 1) := dqn_88 (k := 814) qh_cL_law rfl rfl
theorem dL_law_1449 : decode cL_law 1449 = .ok (.aload_n 2, 1) := dqn_44 (k := 813) qh_cL_law rfl rfl
theorem dL_law_1450 : decode cL_law 1450 = .ok (.aload_n 0, 1) := dqn_42 (k := 812) qh_cL_law rfl rfl
theorem dL_law_1451 : decode cL_law 1451 = .ok (.iload_n 3, 1) := dqn_29 (k := 811) qh_cL_law rfl rfl
theorem dL_law_1452 : decode cL_law 1452 = .ok (.iconst 1, 1) := dqn_4 (k := 810) qh_cL_law rfl rfl
theorem dL_law_1453 : decode cL_law 1453 = .ok (.iadd, 1) := dqn_96 (k := 809) qh_cL_law rfl rfl
theorem dL_law_1454 : decode cL_law 1454 = .ok (.iaload, 1) := dqn_46 (k := 808) qh_cL_law rfl rfl
theorem dL_law_1455 : decode cL_law 1455 = .ok (.aload_n 0, 1) := dqn_42 (k := 807) qh_cL_law rfl rfl
theorem dL_law_1456 : decode cL_law 1456 = .ok (.iload_n 3, 1) := dqn_29 (k := 806) qh_cL_law rfl rfl
theorem dL_law_1457 : decode cL_law 1457 = .ok (.iconst 2, 1) := dqn_5 (k := 805) qh_cL_law rfl rfl
theorem dL_law_1458 : decode cL_law 1458 = .ok (.iadd, 1) := dqn_96 (k := 804) qh_cL_law rfl rfl
theorem dL_law_1459 : decode cL_law 1459 = .ok (.iaload, 1) := dqn_46 (k := 803) qh_cL_law rfl rfl
theorem dL_law_1460 : decode cL_law 1460 = .ok (.aload_n 0, 1) := dqn_42 (k := 802) qh_cL_law rfl rfl
theorem dL_law_1461 : decode cL_law 1461 = .ok (.iload_n 3, 1) := dqn_29 (k := 801) qh_cL_law rfl rfl
theorem dL_law_1462 : decode cL_law 1462 = .ok (.iconst 3, 1) := dqn_6 (k := 800) qh_cL_law rfl rfl
theorem dL_law_1463 : decode cL_law 1463 = .ok (.iadd, 1) := dqn_96 (k := 799) qh_cL_law rfl rfl
theorem dL_law_1464 : decode cL_law 1464 = .ok (.iaload, 1) := dqn_46 (k := 798) qh_cL_law rfl rfl
theorem dL_law_1465 : decode cL_law 1465 = .ok (.aload_n 0, 1) := dqn_42 (k := 797) qh_cL_law rfl rfl
theorem dL_law_1466 : decode cL_law 1466 = .ok (.iload_n 3, 1) := dqn_29 (k := 796) qh_cL_law rfl rfl
theorem dL_law_1467 : decode cL_law 1467 = .ok (.iconst 4, 1) := dqn_7 (k := 795) qh_cL_law rfl rfl
theorem dL_law_1468 : decode cL_law 1468 = .ok (.iadd, 1) := dqn_96 (k := 794) qh_cL_law rfl rfl
theorem dL_law_1469 : decode cL_law 1469 = .ok (.iaload, 1) := dqn_46 (k := 793) qh_cL_law rfl rfl
theorem dL_law_1470 : decode cL_law 1470 = .ok (.aload_n 0, 1) := dqn_42 (k := 792) qh_cL_law rfl rfl
theorem dL_law_1471 : decode cL_law 1471 = .ok (.iload_n 3, 1) := dqn_29 (k := 791) qh_cL_law rfl rfl
theorem dL_law_1472 : decode cL_law 1472 = .ok (.iconst 5, 1) := dqn_8 (k := 790) qh_cL_law rfl rfl
theorem dL_law_1473 : decode cL_law 1473 = .ok (.iadd, 1) := dqn_96 (k := 789) qh_cL_law rfl rfl
theorem dL_law_1474 : decode cL_law 1474 = .ok (.iaload, 1) := dqn_46 (k := 788) qh_cL_law rfl rfl
theorem dL_law_1475 : decode cL_law 1475 = .ok (.invokevirtual 127, 3) := dqn_182 (k := 785) qh_cL_law rfl rfl rfl
theorem dL_law_1478 : decode cL_law 1478 = .ok (.pop2, 1) := dqn_88 (k := 784) qh_cL_law rfl rfl
theorem dL_law_1479 : decode cL_law 1479 = .ok (.goto 776, 3) := dqn_167 (k := 781) (u := 776) qh_cL_law rfl rfl rfl (sg_p rfl rfl)
theorem dL_law_1482 : decode cL_law 1482 = .ok (.aload_n 1, 1) := dqn_43 (k := 780) qh_cL_law rfl rfl
theorem dL_law_1483 : decode cL_law 1483 = .ok (.aload_n 0, 1) := dqn_42 (k := 779) qh_cL_law rfl rfl
theorem dL_law_1484 : decode cL_law 1484 = .ok (.iload_n 3, 1) := dqn_29 (k := 778) qh_cL_law rfl rfl
theorem dL_law_1485 : decode cL_law 1485 = .ok (.iconst 1, 1) := dqn_4 (k := 777) qh_cL_law rfl rfl
theorem dL_law_1486 : decode cL_law 1486 = .ok (.iadd, 1) := dqn_96 (k := 776) qh_cL_law rfl rfl
theorem dL_law_1487 : decode cL_law 1487 = .ok (.iaload, 1) := dqn_46 (k := 775) qh_cL_law rfl rfl
theorem dL_law_1488 : decode cL_law 1488 = .ok (.aload_n 0, 1) := dqn_42 (k := 774) qh_cL_law rfl rfl
theorem dL_law_1489 : decode cL_law 1489 = .ok (.iload_n 3, 1) := dqn_29 (k := 773) qh_cL_law rfl rfl
theorem dL_law_1490 : decode cL_law 1490 = .ok (.iconst 2, 1) := dqn_5 (k := 772) qh_cL_law rfl rfl
theorem dL_law_1491 : decode cL_law 1491 = .ok (.iadd, 1) := dqn_96 (k := 771) qh_cL_law rfl rfl
theorem dL_law_1492 : decode cL_law 1492 = .ok (.iaload, 1) := dqn_46 (k := 770) qh_cL_law rfl rfl
theorem dL_law_1493 : decode cL_law 1493 = .ok (.aload_n 0, 1) := dqn_42 (k := 769) qh_cL_law rfl rfl
theorem dL_law_1494 : decode cL_law 1494 = .ok (.iload_n 3, 1) := dqn_29 (k := 768) qh_cL_law rfl rfl
theorem dL_law_1495 : decode cL_law 1495 = .ok (.iconst 3, 1) := dqn_6 (k := 767) qh_cL_law rfl rfl
theorem dL_law_1496 : decode cL_law 1496 = .ok (.iadd, 1) := dqn_96 (k := 766) qh_cL_law rfl rfl
theorem dL_law_1497 : decode cL_law 1497 = .ok (.iaload, 1) := dqn_46 (k := 765) qh_cL_law rfl rfl
theorem dL_law_1498 : decode cL_law 1498 = .ok (.invokevirtual 128, 3) := dqn_182 (k := 762) qh_cL_law rfl rfl rfl
theorem dL_law_1501 : decode cL_law 1501 = .ok (.pop, 1) := dqn_87 (k := 761) qh_cL_law rfl rfl
theorem dL_law_1502 : decode cL_law 1502 = .ok (.aload_n 2, 1) := dqn_44 (k := 760) qh_cL_law rfl rfl
theorem dL_law_1503 : decode cL_law 1503 = .ok (.aload_n 0, 1) := dqn_42 (k := 759) qh_cL_law rfl rfl
theorem dL_law_1504 : decode cL_law 1504 = .ok (.iload_n 3, 1) := dqn_29 (k := 758) qh_cL_law rfl rfl
theorem dL_law_1505 : decode cL_law 1505 = .ok (.iconst 1, 1) := dqn_4 (k := 757) qh_cL_law rfl rfl
theorem dL_law_1506 : decode cL_law 1506 = .ok (.iadd, 1) := dqn_96 (k := 756) qh_cL_law rfl rfl
theorem dL_law_1507 : decode cL_law 1507 = .ok (.iaload, 1) := dqn_46 (k := 755) qh_cL_law rfl rfl
theorem dL_law_1508 : decode cL_law 1508 = .ok (.aload_n 0, 1) := dqn_42 (k := 754) qh_cL_law rfl rfl
theorem dL_law_1509 : decode cL_law 1509 = .ok (.iload_n 3, 1) := dqn_29 (k := 753) qh_cL_law rfl rfl
theorem dL_law_1510 : decode cL_law 1510 = .ok (.iconst 2, 1) := dqn_5 (k := 752) qh_cL_law rfl rfl
theorem dL_law_1511 : decode cL_law 1511 = .ok (.iadd, 1) := dqn_96 (k := 751) qh_cL_law rfl rfl
theorem dL_law_1512 : decode cL_law 1512 = .ok (.iaload, 1) := dqn_46 (k := 750) qh_cL_law rfl rfl
theorem dL_law_1513 : decode cL_law 1513 = .ok (.aload_n 0, 1) := dqn_42 (k := 749) qh_cL_law rfl rfl
theorem dL_law_1514 : decode cL_law 1514 = .ok (.iload_n 3, 1) := dqn_29 (k := 748) qh_cL_law rfl rfl
theorem dL_law_1515 : decode cL_law 1515 = .ok (.iconst 3, 1) := dqn_6 (k := 747) qh_cL_law rfl rfl
theorem dL_law_1516 : decode cL_law 1516 = .ok (.iadd, 1) := dqn_96 (k := 746) qh_cL_law rfl rfl
theorem dL_law_1517 : decode cL_law 1517 = .ok (.iaload, 1) := dqn_46 (k := 745) qh_cL_law rfl rfl
theorem dL_law_1518 : decode cL_law 1518 = .ok (.invokevirtual 131, 3) := dqn_182 (k := 742) qh_cL_law rfl rfl rfl
theorem dL_law_1521 : decode cL_law 1521 = .ok (.pop, 1) := dqn_87 (k := 741) qh_cL_law rfl rfl
theorem dL_law_1522 : decode cL_law 1522 = .ok (.goto 733, 3) := dqn_167 (k := 738) (u := 733) qh_cL_law rfl rfl rfl (sg_p rfl rfl)
theorem dL_law_1525 : decode cL_law 1525 = .ok (.aload_n 1, 1) := dqn_43 (k := 737) qh_cL_law rfl rfl
theorem dL_law_1526 : decode cL_law 1526 = .ok (.aload_n 0, 1) := dqn_42 (k := 736) qh_cL_law rfl rfl
theorem dL_law_1527 : decode cL_law 1527 = .ok (.iload_n 3, 1) := dqn_29 (k := 735) qh_cL_law rfl rfl
theorem dL_law_1528 : decode cL_law 1528 = .ok (.iconst 1, 1) := dqn_4 (k := 734) qh_cL_law rfl rfl
theorem dL_law_1529 : decode cL_law 1529 = .ok (.iadd, 1) := dqn_96 (k := 733) qh_cL_law rfl rfl
theorem dL_law_1530 : decode cL_law 1530 = .ok (.iaload, 1) := dqn_46 (k := 732) qh_cL_law rfl rfl
theorem dL_law_1531 : decode cL_law 1531 = .ok (.aload_n 0, 1) := dqn_42 (k := 731) qh_cL_law rfl rfl
theorem dL_law_1532 : decode cL_law 1532 = .ok (.iload_n 3, 1) := dqn_29 (k := 730) qh_cL_law rfl rfl
theorem dL_law_1533 : decode cL_law 1533 = .ok (.iconst 2, 1) := dqn_5 (k := 729) qh_cL_law rfl rfl
theorem dL_law_1534 : decode cL_law 1534 = .ok (.iadd, 1) := dqn_96 (k := 728) qh_cL_law rfl rfl
theorem dL_law_1535 : decode cL_law 1535 = .ok (.iaload, 1) := dqn_46 (k := 727) qh_cL_law rfl rfl
theorem dL_law_1536 : decode cL_law 1536 = .ok (.invokevirtual 132, 3) := dqn_182 (k := 724) qh_cL_law rfl rfl rfl
theorem dL_law_1539 : decode cL_law 1539 = .ok (.pop, 1) := dqn_87 (k := 723) qh_cL_law rfl rfl
theorem dL_law_1540 : decode cL_law 1540 = .ok (.aload_n 2, 1) := dqn_44 (k := 722) qh_cL_law rfl rfl
theorem dL_law_1541 : decode cL_law 1541 = .ok (.aload_n 0, 1) := dqn_42 (k := 721) qh_cL_law rfl rfl
theorem dL_law_1542 : decode cL_law 1542 = .ok (.iload_n 3, 1) := dqn_29 (k := 720) qh_cL_law rfl rfl
theorem dL_law_1543 : decode cL_law 1543 = .ok (.iconst 1, 1) := dqn_4 (k := 719) qh_cL_law rfl rfl
theorem dL_law_1544 : decode cL_law 1544 = .ok (.iadd, 1) := dqn_96 (k := 718) qh_cL_law rfl rfl
theorem dL_law_1545 : decode cL_law 1545 = .ok (.iaload, 1) := dqn_46 (k := 717) qh_cL_law rfl rfl
theorem dL_law_1546 : decode cL_law 1546 = .ok (.aload_n 0, 1) := dqn_42 (k := 716) qh_cL_law rfl rfl
theorem dL_law_1547 : decode cL_law 1547 = .ok (.iload_n 3, 1) := dqn_29 (k := 715) qh_cL_law rfl rfl
theorem dL_law_1548 : decode cL_law 1548 = .ok (.iconst 2, 1) := dqn_5 (k := 714) qh_cL_law rfl rfl
theorem dL_law_1549 : decode cL_law 1549 = .ok (.iadd, 1) := dqn_96 (k := 713) qh_cL_law rfl rfl
theorem dL_law_1550 : decode cL_law 1550 = .ok (.iaload, 1) := dqn_46 (k := 712) qh_cL_law rfl rfl
theorem dL_law_1551 : decode cL_law 1551 = .ok (.invokevirtual 135, 3) := dqn_182 (k := 709) qh_cL_law rfl rfl rfl
theorem dL_law_1554 : decode cL_law 1554 = .ok (.pop, 1) := dqn_87 (k := 708) qh_cL_law rfl rfl
theorem dL_law_1555 : decode cL_law 1555 = .ok (.goto 700, 3) := dqn_167 (k := 705) (u := 700) qh_cL_law rfl rfl rfl (sg_p rfl rfl)
theorem dL_law_1558 : decode cL_law 1558 = .ok (.aload_n 1, 1) := dqn_43 (k := 704) qh_cL_law rfl rfl
theorem dL_law_1559 : decode cL_law 1559 = .ok (.aload_n 0, 1) := dqn_42 (k := 703) qh_cL_law rfl rfl
theorem dL_law_1560 : decode cL_law 1560 = .ok (.iload_n 3, 1) := dqn_29 (k := 702) qh_cL_law rfl rfl
theorem dL_law_1561 : decode cL_law 1561 = .ok (.iconst 1, 1) := dqn_4 (k := 701) qh_cL_law rfl rfl
theorem dL_law_1562 : decode cL_law 1562 = .ok (.iadd, 1) := dqn_96 (k := 700) qh_cL_law rfl rfl
theorem dL_law_1563 : decode cL_law 1563 = .ok (.iaload, 1) := dqn_46 (k := 699) qh_cL_law rfl rfl
theorem dL_law_1564 : decode cL_law 1564 = .ok (.aload_n 0, 1) := dqn_42 (k := 698) qh_cL_law rfl rfl
theorem dL_law_1565 : decode cL_law 1565 = .ok (.iload_n 3, 1) := dqn_29 (k := 697) qh_cL_law rfl rfl
theorem dL_law_1566 : decode cL_law 1566 = .ok (.iconst 2, 1) := dqn_5 (k := 696) qh_cL_law rfl rfl
theorem dL_law_1567 : decode cL_law 1567 = .ok (.iadd, 1) := dqn_96 (k := 695) qh_cL_law rfl rfl
theorem dL_law_1568 : decode cL_law 1568 = .ok (.iaload, 1) := dqn_46 (k := 694) qh_cL_law rfl rfl
theorem dL_law_1569 : decode cL_law 1569 = .ok (.invokevirtual 136, 3) := dqn_182 (k := 691) qh_cL_law rfl rfl rfl
theorem dL_law_1572 : decode cL_law 1572 = .ok (.pop, 1) := dqn_87 (k := 690) qh_cL_law rfl rfl
theorem dL_law_1573 : decode cL_law 1573 = .ok (.aload_n 2, 1) := dqn_44 (k := 689) qh_cL_law rfl rfl
theorem dL_law_1574 : decode cL_law 1574 = .ok (.aload_n 0, 1) := dqn_42 (k := 688) qh_cL_law rfl rfl
theorem dL_law_1575 : decode cL_law 1575 = .ok (.iload_n 3, 1) := dqn_29 (k := 687) qh_cL_law rfl rfl
theorem dL_law_1576 : decode cL_law 1576 = .ok (.iconst 1, 1) := dqn_4 (k := 686) qh_cL_law rfl rfl
theorem dL_law_1577 : decode cL_law 1577 = .ok (.iadd, 1) := dqn_96 (k := 685) qh_cL_law rfl rfl
theorem dL_law_1578 : decode cL_law 1578 = .ok (.iaload, 1) := dqn_46 (k := 684) qh_cL_law rfl rfl
theorem dL_law_1579 : decode cL_law 1579 = .ok (.aload_n 0, 1) := dqn_42 (k := 683) qh_cL_law rfl rfl
theorem dL_law_1580 : decode cL_law 1580 = .ok (.iload_n 3, 1) := dqn_29 (k := 682) qh_cL_law rfl rfl
theorem dL_law_1581 : decode cL_law 1581 = .ok (.iconst 2, 1) := dqn_5 (k := 681) qh_cL_law rfl rfl
theorem dL_law_1582 : decode cL_law 1582 = .ok (.iadd, 1) := dqn_96 (k := 680) qh_cL_law rfl rfl
theorem dL_law_1583 : decode cL_law 1583 = .ok (.iaload, 1) := dqn_46 (k := 679) qh_cL_law rfl rfl
theorem dL_law_1584 : decode cL_law 1584 = .ok (.invokevirtual 139, 3) := dqn_182 (k := 676) qh_cL_law rfl rfl rfl
theorem dL_law_1587 : decode cL_law 1587 = .ok (.pop, 1) := dqn_87 (k := 675) qh_cL_law rfl rfl
theorem dL_law_1588 : decode cL_law 1588 = .ok (.goto 667, 3) := dqn_167 (k := 672) (u := 667) qh_cL_law rfl rfl rfl (sg_p rfl rfl)
theorem dL_law_1591 : decode cL_law 1591 = .ok (.aload_n 1, 1) := dqn_43 (k := 671) qh_cL_law rfl rfl
theorem dL_law_1592 : decode cL_law 1592 = .ok (.aload_n 0, 1) := dqn_42 (k := 670) qh_cL_law rfl rfl
theorem dL_law_1593 : decode cL_law 1593 = .ok (.iload_n 3, 1) := dqn_29 (k := 669) qh_cL_law rfl rfl
theorem dL_law_1594 : decode cL_law 1594 = .ok (.iconst 1, 1) := dqn_4 (k := 668) qh_cL_law rfl rfl
theorem dL_law_1595 : decode cL_law 1595 = .ok (.iadd, 1) := dqn_96 (k := 667) qh_cL_law rfl rfl
theorem dL_law_1596 : decode cL_law 1596 = .ok (.iaload, 1) := dqn_46 (k := 666) qh_cL_law rfl rfl
theorem dL_law_1597 : decode cL_law 1597 = .ok (.aload_n 0, 1) := dqn_42 (k := 665) qh_cL_law rfl rfl
theorem dL_law_1598 : decode cL_law 1598 = .ok (.iload_n 3, 1) := dqn_29 (k := 664) qh_cL_law rfl rfl
theorem dL_law_1599 : decode cL_law 1599 = .ok (.iconst 2, 1) := dqn_5 (k := 663) qh_cL_law rfl rfl
theorem dL_law_1600 : decode cL_law 1600 = .ok (.iadd, 1) := dqn_96 (k := 662) qh_cL_law rfl rfl
theorem dL_law_1601 : decode cL_law 1601 = .ok (.iaload, 1) := dqn_46 (k := 661) qh_cL_law rfl rfl
theorem dL_law_1602 : decode cL_law 1602 = .ok (.invokevirtual 140, 3) := dqn_182 (k := 658) qh_cL_law rfl rfl rfl
theorem dL_law_1605 : decode cL_law 1605 = .ok (.pop, 1) := dqn_87 (k := 657) qh_cL_law rfl rfl
theorem dL_law_1606 : decode cL_law 1606 = .ok (.aload_n 2, 1) := dqn_44 (k := 656) qh_cL_law rfl rfl
theorem dL_law_1607 : decode cL_law 1607 = .ok (.aload_n 0, 1) := dqn_42 (k := 655) qh_cL_law rfl rfl
theorem dL_law_1608 : decode cL_law 1608 = .ok (.iload_n 3, 1) := dqn_29 (k := 654) qh_cL_law rfl rfl
theorem dL_law_1609 : decode cL_law 1609 = .ok (.iconst 1, 1) := dqn_4 (k := 653) qh_cL_law rfl rfl
theorem dL_law_1610 : decode cL_law 1610 = .ok (.iadd, 1) := dqn_96 (k := 652) qh_cL_law rfl rfl
theorem dL_law_1611 : decode cL_law 1611 = .ok (.iaload, 1) := dqn_46 (k := 651) qh_cL_law rfl rfl
theorem dL_law_1612 : decode cL_law 1612 = .ok (.aload_n 0, 1) := dqn_42 (k := 650) qh_cL_law rfl rfl
theorem dL_law_1613 : decode cL_law 1613 = .ok (.iload_n 3, 1) := dqn_29 (k := 649) qh_cL_law rfl rfl
theorem dL_law_1614 : decode cL_law 1614 = .ok (.iconst 2, 1) := dqn_5 (k := 648) qh_cL_law rfl rfl
theorem dL_law_1615 : decode cL_law 1615 = .ok (.iadd, 1) := dqn_96 (k := 647) qh_cL_law rfl rfl
theorem dL_law_1616 : decode cL_law 1616 = .ok (.iaload, 1) := dqn_46 (k := 646) qh_cL_law rfl rfl
theorem dL_law_1617 : decode cL_law 1617 = .ok (.invokevirtual 143, 3) := dqn_182 (k := 643) qh_cL_law rfl rfl rfl
theorem dL_law_1620 : decode cL_law 1620 = .ok (.pop, 1) := dqn_87 (k := 642) qh_cL_law rfl rfl
theorem dL_law_1621 : decode cL_law 1621 = .ok (.goto 634, 3) := dqn_167 (k := 639) (u := 634) qh_cL_law rfl rfl rfl (sg_p rfl rfl)
theorem dL_law_1624 : decode cL_law 1624 = .ok (.aload_n 1, 1) := dqn_43 (k := 638) qh_cL_law rfl rfl
theorem dL_law_1625 : decode cL_law 1625 = .ok (.aload_n 0, 1) := dqn_42 (k := 637) qh_cL_law rfl rfl
theorem dL_law_1626 : decode cL_law 1626 = .ok (.iload_n 3, 1) := dqn_29 (k := 636) qh_cL_law rfl rfl
theorem dL_law_1627 : decode cL_law 1627 = .ok (.iconst 1, 1) := dqn_4 (k := 635) qh_cL_law rfl rfl
theorem dL_law_1628 : decode cL_law 1628 = .ok (.iadd, 1) := dqn_96 (k := 634) qh_cL_law rfl rfl
theorem dL_law_1629 : decode cL_law 1629 = .ok (.iaload, 1) := dqn_46 (k := 633) qh_cL_law rfl rfl
theorem dL_law_1630 : decode cL_law 1630 = .ok (.aload_n 0, 1) := dqn_42 (k := 632) qh_cL_law rfl rfl
theorem dL_law_1631 : decode cL_law 1631 = .ok (.iload_n 3, 1) := dqn_29 (k := 631) qh_cL_law rfl rfl
theorem dL_law_1632 : decode cL_law 1632 = .ok (.iconst 2, 1) := dqn_5 (k := 630) qh_cL_law rfl rfl
theorem dL_law_1633 : decode cL_law 1633 = .ok (.iadd, 1) := dqn_96 (k := 629) qh_cL_law rfl rfl
theorem dL_law_1634 : decode cL_law 1634 = .ok (.iaload, 1) := dqn_46 (k := 628) qh_cL_law rfl rfl
theorem dL_law_1635 : decode cL_law 1635 = .ok (.aload_n 0, 1) := dqn_42 (k := 627) qh_cL_law rfl rfl
theorem dL_law_1636 : decode cL_law 1636 = .ok (.iload_n 3, 1) := dqn_29 (k := 626) qh_cL_law rfl rfl
theorem dL_law_1637 : decode cL_law 1637 = .ok (.iconst 3, 1) := dqn_6 (k := 625) qh_cL_law rfl rfl
theorem dL_law_1638 : decode cL_law 1638 = .ok (.iadd, 1) := dqn_96 (k := 624) qh_cL_law rfl rfl
theorem dL_law_1639 : decode cL_law 1639 = .ok (.iaload, 1) := dqn_46 (k := 623) qh_cL_law rfl rfl
theorem dL_law_1640 : decode cL_law 1640 = .ok (.aload_n 0, 1) := dqn_42 (k := 622) qh_cL_law rfl rfl
theorem dL_law_1641 : decode cL_law 1641 = .ok (.iload_n 3, 1) := dqn_29 (k := 621) qh_cL_law rfl rfl
theorem dL_law_1642 : decode cL_law 1642 = .ok (.iconst 4, 1) := dqn_7 (k := 620) qh_cL_law rfl rfl
theorem dL_law_1643 : decode cL_law 1643 = .ok (.iadd, 1) := dqn_96 (k := 619) qh_cL_law rfl rfl
theorem dL_law_1644 : decode cL_law 1644 = .ok (.iaload, 1) := dqn_46 (k := 618) qh_cL_law rfl rfl
theorem dL_law_1645 : decode cL_law 1645 = .ok (.ifCond .eq 7, 3) := dqn_153 (k := 615) (u := 7) qh_cL_law rfl rfl rfl (sg_p rfl rfl)
theorem dL_law_1648 : decode cL_law 1648 = .ok (.iconst 1, 1) := dqn_4 (k := 614) qh_cL_law rfl rfl
theorem dL_law_1649 : decode cL_law 1649 = .ok (.goto 4, 3) := dqn_167 (k := 611) (u := 4) qh_cL_law rfl rfl rfl (sg_p rfl rfl)
theorem dL_law_1652 : decode cL_law 1652 = .ok (.iconst 0, 1) := dqn_3 (k := 610) qh_cL_law rfl rfl
theorem dL_law_1653 : decode cL_law 1653 = .ok (.invokevirtual 144, 3) := dqn_182 (k := 607) qh_cL_law rfl rfl rfl
theorem dL_law_1656 : decode cL_law 1656 = .ok (.pop, 1) := dqn_87 (k := 606) qh_cL_law rfl rfl
theorem dL_law_1657 : decode cL_law 1657 = .ok (.aload_n 2, 1) := dqn_44 (k := 605) qh_cL_law rfl rfl
theorem dL_law_1658 : decode cL_law 1658 = .ok (.aload_n 0, 1) := dqn_42 (k := 604) qh_cL_law rfl rfl
theorem dL_law_1659 : decode cL_law 1659 = .ok (.iload_n 3, 1) := dqn_29 (k := 603) qh_cL_law rfl rfl
theorem dL_law_1660 : decode cL_law 1660 = .ok (.iconst 1, 1) := dqn_4 (k := 602) qh_cL_law rfl rfl
theorem dL_law_1661 : decode cL_law 1661 = .ok (.iadd, 1) := dqn_96 (k := 601) qh_cL_law rfl rfl
theorem dL_law_1662 : decode cL_law 1662 = .ok (.iaload, 1) := dqn_46 (k := 600) qh_cL_law rfl rfl
theorem dL_law_1663 : decode cL_law 1663 = .ok (.aload_n 0, 1) := dqn_42 (k := 599) qh_cL_law rfl rfl
theorem dL_law_1664 : decode cL_law 1664 = .ok (.iload_n 3, 1) := dqn_29 (k := 598) qh_cL_law rfl rfl
theorem dL_law_1665 : decode cL_law 1665 = .ok (.iconst 2, 1) := dqn_5 (k := 597) qh_cL_law rfl rfl
theorem dL_law_1666 : decode cL_law 1666 = .ok (.iadd, 1) := dqn_96 (k := 596) qh_cL_law rfl rfl
theorem dL_law_1667 : decode cL_law 1667 = .ok (.iaload, 1) := dqn_46 (k := 595) qh_cL_law rfl rfl
theorem dL_law_1668 : decode cL_law 1668 = .ok (.aload_n 0, 1) := dqn_42 (k := 594) qh_cL_law rfl rfl
theorem dL_law_1669 : decode cL_law 1669 = .ok (.iload_n 3, 1) := dqn_29 (k := 593) qh_cL_law rfl rfl
theorem dL_law_1670 : decode cL_law 1670 = .ok (.iconst 3, 1) := dqn_6 (k := 592) qh_cL_law rfl rfl
theorem dL_law_1671 : decode cL_law 1671 = .ok (.iadd, 1) := dqn_96 (k := 591) qh_cL_law rfl rfl
theorem dL_law_1672 : decode cL_law 1672 = .ok (.iaload, 1) := dqn_46 (k := 590) qh_cL_law rfl rfl
theorem dL_law_1673 : decode cL_law 1673 = .ok (.aload_n 0, 1) := dqn_42 (k := 589) qh_cL_law rfl rfl
theorem dL_law_1674 : decode cL_law 1674 = .ok (.iload_n 3, 1) := dqn_29 (k := 588) qh_cL_law rfl rfl
theorem dL_law_1675 : decode cL_law 1675 = .ok (.iconst 4, 1) := dqn_7 (k := 587) qh_cL_law rfl rfl
theorem dL_law_1676 : decode cL_law 1676 = .ok (.iadd, 1) := dqn_96 (k := 586) qh_cL_law rfl rfl
theorem dL_law_1677 : decode cL_law 1677 = .ok (.iaload, 1) := dqn_46 (k := 585) qh_cL_law rfl rfl
theorem dL_law_1678 : decode cL_law 1678 = .ok (.ifCond .eq 7, 3) := dqn_153 (k := 582) (u := 7) qh_cL_law rfl rfl rfl (sg_p rfl rfl)
theorem dL_law_1681 : decode cL_law 1681 = .ok (.iconst 1, 1) := dqn_4 (k := 581) qh_cL_law rfl rfl
theorem dL_law_1682 : decode cL_law 1682 = .ok (.goto 4, 3) := dqn_167 (k := 578) (u := 4) qh_cL_law rfl rfl rfl (sg_p rfl rfl)
theorem dL_law_1685 : decode cL_law 1685 = .ok (.iconst 0, 1) := dqn_3 (k := 577) qh_cL_law rfl rfl
theorem dL_law_1686 : decode cL_law 1686 = .ok (.invokevirtual 147, 3) := dqn_182 (k := 574) qh_cL_law rfl rfl rfl
theorem dL_law_1689 : decode cL_law 1689 = .ok (.pop, 1) := dqn_87 (k := 573) qh_cL_law rfl rfl
theorem dL_law_1690 : decode cL_law 1690 = .ok (.goto 565, 3) := dqn_167 (k := 570) (u := 565) qh_cL_law rfl rfl rfl (sg_p rfl rfl)
theorem dL_law_1693 : decode cL_law 1693 = .ok (.aload_n 1, 1) := dqn_43 (k := 569) qh_cL_law rfl rfl
theorem dL_law_1694 : decode cL_law 1694 = .ok (.aload_n 0, 1) := dqn_42 (k := 568) qh_cL_law rfl rfl
theorem dL_law_1695 : decode cL_law 1695 = .ok (.iload_n 3, 1) := dqn_29 (k := 567) qh_cL_law rfl rfl
theorem dL_law_1696 : decode cL_law 1696 = .ok (.iconst 1, 1) := dqn_4 (k := 566) qh_cL_law rfl rfl
theorem dL_law_1697 : decode cL_law 1697 = .ok (.iadd, 1) := dqn_96 (k := 565) qh_cL_law rfl rfl
theorem dL_law_1698 : decode cL_law 1698 = .ok (.iaload, 1) := dqn_46 (k := 564) qh_cL_law rfl rfl
theorem dL_law_1699 : decode cL_law 1699 = .ok (.aload_n 0, 1) := dqn_42 (k := 563) qh_cL_law rfl rfl
theorem dL_law_1700 : decode cL_law 1700 = .ok (.iload_n 3, 1) := dqn_29 (k := 562) qh_cL_law rfl rfl
theorem dL_law_1701 : decode cL_law 1701 = .ok (.iconst 2, 1) := dqn_5 (k := 561) qh_cL_law rfl rfl
theorem dL_law_1702 : decode cL_law 1702 = .ok (.iadd, 1) := dqn_96 (k := 560) qh_cL_law rfl rfl
theorem dL_law_1703 : decode cL_law 1703 = .ok (.iaload, 1) := dqn_46 (k := 559) qh_cL_law rfl rfl
theorem dL_law_1704 : decode cL_law 1704 = .ok (.aload_n 0, 1) := dqn_42 (k := 558) qh_cL_law rfl rfl
theorem dL_law_1705 : decode cL_law 1705 = .ok (.iload_n 3, 1) := dqn_29 (k := 557) qh_cL_law rfl rfl
theorem dL_law_1706 : decode cL_law 1706 = .ok (.iconst 3, 1) := dqn_6 (k := 556) qh_cL_law rfl rfl
theorem dL_law_1707 : decode cL_law 1707 = .ok (.iadd, 1) := dqn_96 (k := 555) qh_cL_law rfl rfl
theorem dL_law_1708 : decode cL_law 1708 = .ok (.iaload, 1) := dqn_46 (k := 554) qh_cL_law rfl rfl
theorem dL_law_1709 : decode cL_law 1709 = .ok (.invokevirtual 148, 3) := dqn_182 (k := 551) qh_cL_law rfl rfl rfl
theorem dL_law_1712 : decode cL_law 1712 = .ok (.pop, 1) := dqn_87 (k := 550) qh_cL_law rfl rfl
theorem dL_law_1713 : decode cL_law 1713 = .ok (.aload_n 2, 1) := dqn_44 (k := 549) qh_cL_law rfl rfl
theorem dL_law_1714 : decode cL_law 1714 = .ok (.aload_n 0, 1) := dqn_42 (k := 548) qh_cL_law rfl rfl
theorem dL_law_1715 : decode cL_law 1715 = .ok (.iload_n 3, 1) := dqn_29 (k := 547) qh_cL_law rfl rfl
theorem dL_law_1716 : decode cL_law 1716 = .ok (.iconst 1, 1) := dqn_4 (k := 546) qh_cL_law rfl rfl
theorem dL_law_1717 : decode cL_law 1717 = .ok (.iadd, 1) := dqn_96 (k := 545) qh_cL_law rfl rfl
theorem dL_law_1718 : decode cL_law 1718 = .ok (.iaload, 1) := dqn_46 (k := 544) qh_cL_law rfl rfl
theorem dL_law_1719 : decode cL_law 1719 = .ok (.aload_n 0, 1) := dqn_42 (k := 543) qh_cL_law rfl rfl
theorem dL_law_1720 : decode cL_law 1720 = .ok (.iload_n 3, 1) := dqn_29 (k := 542) qh_cL_law rfl rfl
theorem dL_law_1721 : decode cL_law 1721 = .ok (.iconst 2, 1) := dqn_5 (k := 541) qh_cL_law rfl rfl
theorem dL_law_1722 : decode cL_law 1722 = .ok (.iadd, 1) := dqn_96 (k := 540) qh_cL_law rfl rfl
theorem dL_law_1723 : decode cL_law 1723 = .ok (.iaload, 1) := dqn_46 (k := 539) qh_cL_law rfl rfl
theorem dL_law_1724 : decode cL_law 1724 = .ok (.aload_n 0, 1) := dqn_42 (k := 538) qh_cL_law rfl rfl
theorem dL_law_1725 : decode cL_law 1725 = .ok (.iload_n 3, 1) := dqn_29 (k := 537) qh_cL_law rfl rfl
theorem dL_law_1726 : decode cL_law 1726 = .ok (.iconst 3, 1) := dqn_6 (k := 536) qh_cL_law rfl rfl
theorem dL_law_1727 : decode cL_law 1727 = .ok (.iadd, 1) := dqn_96 (k := 535) qh_cL_law rfl rfl
theorem dL_law_1728 : decode cL_law 1728 = .ok (.iaload, 1) := dqn_46 (k := 534) qh_cL_law rfl rfl
theorem dL_law_1729 : decode cL_law 1729 = .ok (.invokevirtual 151, 3) := dqn_182 (k := 531) qh_cL_law rfl rfl rfl
theorem dL_law_1732 : decode cL_law 1732 = .ok (.pop, 1) := dqn_87 (k := 530) qh_cL_law rfl rfl
theorem dL_law_1733 : decode cL_law 1733 = .ok (.goto 522, 3) := dqn_167 (k := 527) (u := 522) qh_cL_law rfl rfl rfl (sg_p rfl rfl)
theorem dL_law_1736 : decode cL_law 1736 = .ok (.aload_n 1, 1) := dqn_43 (k := 526) qh_cL_law rfl rfl
theorem dL_law_1737 : decode cL_law 1737 = .ok (.aload_n 0, 1) := dqn_42 (k := 525) qh_cL_law rfl rfl
theorem dL_law_1738 : decode cL_law 1738 = .ok (.iload_n 3, 1) := dqn_29 (k := 524) qh_cL_law rfl rfl
theorem dL_law_1739 : decode cL_law 1739 = .ok (.iconst 1, 1) := dqn_4 (k := 523) qh_cL_law rfl rfl
theorem dL_law_1740 : decode cL_law 1740 = .ok (.iadd, 1) := dqn_96 (k := 522) qh_cL_law rfl rfl
theorem dL_law_1741 : decode cL_law 1741 = .ok (.iaload, 1) := dqn_46 (k := 521) qh_cL_law rfl rfl
theorem dL_law_1742 : decode cL_law 1742 = .ok (.aload_n 0, 1) := dqn_42 (k := 520) qh_cL_law rfl rfl
theorem dL_law_1743 : decode cL_law 1743 = .ok (.iload_n 3, 1) := dqn_29 (k := 519) qh_cL_law rfl rfl
theorem dL_law_1744 : decode cL_law 1744 = .ok (.iconst 2, 1) := dqn_5 (k := 518) qh_cL_law rfl rfl
theorem dL_law_1745 : decode cL_law 1745 = .ok (.iadd, 1) := dqn_96 (k := 517) qh_cL_law rfl rfl
theorem dL_law_1746 : decode cL_law 1746 = .ok (.iaload, 1) := dqn_46 (k := 516) qh_cL_law rfl rfl
theorem dL_law_1747 : decode cL_law 1747 = .ok (.aload_n 0, 1) := dqn_42 (k := 515) qh_cL_law rfl rfl
theorem dL_law_1748 : decode cL_law 1748 = .ok (.iload_n 3, 1) := dqn_29 (k := 514) qh_cL_law rfl rfl
theorem dL_law_1749 : decode cL_law 1749 = .ok (.iconst 3, 1) := dqn_6 (k := 513) qh_cL_law rfl rfl
theorem dL_law_1750 : decode cL_law 1750 = .ok (.iadd, 1) := dqn_96 (k := 512) qh_cL_law rfl rfl
theorem dL_law_1751 : decode cL_law 1751 = .ok (.iaload, 1) := dqn_46 (k := 511) qh_cL_law rfl rfl
theorem dL_law_1752 : decode cL_law 1752 = .ok (.aload_n 0, 1) := dqn_42 (k := 510) qh_cL_law rfl rfl
theorem dL_law_1753 : decode cL_law 1753 = .ok (.iload_n 3, 1) := dqn_29 (k := 509) qh_cL_law rfl rfl
theorem dL_law_1754 : decode cL_law 1754 = .ok (.iconst 4, 1) := dqn_7 (k := 508) qh_cL_law rfl rfl
theorem dL_law_1755 : decode cL_law 1755 = .ok (.iadd, 1) := dqn_96 (k := 507) qh_cL_law rfl rfl
theorem dL_law_1756 : decode cL_law 1756 = .ok (.iaload, 1) := dqn_46 (k := 506) qh_cL_law rfl rfl
theorem dL_law_1757 : decode cL_law 1757 = .ok (.invokevirtual 152, 3) := dqn_182 (k := 503) qh_cL_law rfl rfl rfl
theorem dL_law_1760 : decode cL_law 1760 = .ok (.pop2, 1) := dqn_88 (k := 502) qh_cL_law rfl rfl
theorem dL_law_1761 : decode cL_law 1761 = .ok (.aload_n 2, 1) := dqn_44 (k := 501) qh_cL_law rfl rfl
theorem dL_law_1762 : decode cL_law 1762 = .ok (.aload_n 0, 1) := dqn_42 (k := 500) qh_cL_law rfl rfl
theorem dL_law_1763 : decode cL_law 1763 = .ok (.iload_n 3, 1) := dqn_29 (k := 499) qh_cL_law rfl rfl
theorem dL_law_1764 : decode cL_law 1764 = .ok (.iconst 1, 1) := dqn_4 (k := 498) qh_cL_law rfl rfl
theorem dL_law_1765 : decode cL_law 1765 = .ok (.iadd, 1) := dqn_96 (k := 497) qh_cL_law rfl rfl
theorem dL_law_1766 : decode cL_law 1766 = .ok (.iaload, 1) := dqn_46 (k := 496) qh_cL_law rfl rfl
theorem dL_law_1767 : decode cL_law 1767 = .ok (.aload_n 0, 1) := dqn_42 (k := 495) qh_cL_law rfl rfl
theorem dL_law_1768 : decode cL_law 1768 = .ok (.iload_n 3, 1) := dqn_29 (k := 494) qh_cL_law rfl rfl
theorem dL_law_1769 : decode cL_law 1769 = .ok (.iconst 2, 1) := dqn_5 (k := 493) qh_cL_law rfl rfl
theorem dL_law_1770 : decode cL_law 1770 = .ok (.iadd, 1) := dqn_96 (k := 492) qh_cL_law rfl rfl
theorem dL_law_1771 : decode cL_law 1771 = .ok (.iaload, 1) := dqn_46 (k := 491) qh_cL_law rfl rfl
theorem dL_law_1772 : decode cL_law 1772 = .ok (.aload_n 0, 1) := dqn_42 (k := 490) qh_cL_law rfl rfl
theorem dL_law_1773 : decode cL_law 1773 = .ok (.iload_n 3, 1) := dqn_29 (k := 489) qh_cL_law rfl rfl
theorem dL_law_1774 : decode cL_law 1774 = .ok (.iconst 3, 1) := dqn_6 (k := 488) qh_cL_law rfl rfl
theorem dL_law_1775 : decode cL_law 1775 = .ok (.iadd, 1) := dqn_96 (k := 487) qh_cL_law rfl rfl
theorem dL_law_1776 : decode cL_law 1776 = .ok (.iaload, 1) := dqn_46 (k := 486) qh_cL_law rfl rfl
theorem dL_law_1777 : decode cL_law 1777 = .ok (.aload_n 0, 1) := dqn_42 (k := 485) qh_cL_law rfl rfl
theorem dL_law_1778 : decode cL_law 1778 = .ok (.iload_n 3, 1) := dqn_29 (k := 484) qh_cL_law rfl rfl
theorem dL_law_1779 : decode cL_law 1779 = .ok (.iconst 4, 1) := dqn_7 (k := 483) qh_cL_law rfl rfl
theorem dL_law_1780 : decode cL_law 1780 = .ok (.iadd, 1) := dqn_96 (k := 482) qh_cL_law rfl rfl
theorem dL_law_1781 : decode cL_law 1781 = .ok (.iaload, 1) := dqn_46 (k := 481) qh_cL_law rfl rfl
theorem dL_law_1782 : decode cL_law 1782 = .ok (.invokevirtual 155, 3) := dqn_182 (k := 478) qh_cL_law rfl rfl rfl
theorem dL_law_1785 : decode cL_law 1785 = .ok (.pop2, 1) := dqn_88 (k := 477) qh_cL_law rfl rfl
theorem dL_law_1786 : decode cL_law 1786 = .ok (.goto 469, 3) := dqn_167 (k := 474) (u := 469) qh_cL_law rfl rfl rfl (sg_p rfl rfl)
theorem dL_law_1789 : decode cL_law 1789 = .ok (.aload_n 1, 1) := dqn_43 (k := 473) qh_cL_law rfl rfl
theorem dL_law_1790 : decode cL_law 1790 = .ok (.aload_n 0, 1) := dqn_42 (k := 472) qh_cL_law rfl rfl
theorem dL_law_1791 : decode cL_law 1791 = .ok (.iload_n 3, 1) := dqn_29 (k := 471) qh_cL_law rfl rfl
theorem dL_law_1792 : decode cL_law 1792 = .ok (.iconst 1, 1) := dqn_4 (k := 470) qh_cL_law rfl rfl
theorem dL_law_1793 : decode cL_law 1793 = .ok (.iadd, 1) := dqn_96 (k := 469) qh_cL_law rfl rfl
theorem dL_law_1794 : decode cL_law 1794 = .ok (.iaload, 1) := dqn_46 (k := 468) qh_cL_law rfl rfl
theorem dL_law_1795 : decode cL_law 1795 = .ok (.aload_n 0, 1) := dqn_42 (k := 467) qh_cL_law rfl rfl
theorem dL_law_1796 : decode cL_law 1796 = .ok (.iload_n 3, 1) := dqn_29 (k := 466) qh_cL_law rfl rfl
theorem dL_law_1797 : decode cL_law 1797 = .ok (.iconst 2, 1) := dqn_5 (k := 465) qh_cL_law rfl rfl
theorem dL_law_1798 : decode cL_law 1798 = .ok (.iadd, 1) := dqn_96 (k := 464) qh_cL_law rfl rfl
theorem dL_law_1799 : decode cL_law 1799 = .ok (.iaload, 1) := dqn_46 (k := 463) qh_cL_law rfl rfl
theorem dL_law_1800 : decode cL_law 1800 = .ok (.aload_n 0, 1) := dqn_42 (k := 462) qh_cL_law rfl rfl
theorem dL_law_1801 : decode cL_law 1801 = .ok (.iload_n 3, 1) := dqn_29 (k := 461) qh_cL_law rfl rfl
theorem dL_law_1802 : decode cL_law 1802 = .ok (.iconst 3, 1) := dqn_6 (k := 460) qh_cL_law rfl rfl
theorem dL_law_1803 : decode cL_law 1803 = .ok (.iadd, 1) := dqn_96 (k := 459) qh_cL_law rfl rfl
theorem dL_law_1804 : decode cL_law 1804 = .ok (.iaload, 1) := dqn_46 (k := 458) qh_cL_law rfl rfl
theorem dL_law_1805 : decode cL_law 1805 = .ok (.aload_n 0, 1) := dqn_42 (k := 457) qh_cL_law rfl rfl
theorem dL_law_1806 : decode cL_law 1806 = .ok (.iload_n 3, 1) := dqn_29 (k := 456) qh_cL_law rfl rfl
theorem dL_law_1807 : decode cL_law 1807 = .ok (.iconst 4, 1) := dqn_7 (k := 455) qh_cL_law rfl rfl
theorem dL_law_1808 : decode cL_law 1808 = .ok (.iadd, 1) := dqn_96 (k := 454) qh_cL_law rfl rfl
theorem dL_law_1809 : decode cL_law 1809 = .ok (.iaload, 1) := dqn_46 (k := 453) qh_cL_law rfl rfl
theorem dL_law_1810 : decode cL_law 1810 = .ok (.aload_n 0, 1) := dqn_42 (k := 452) qh_cL_law rfl rfl
theorem dL_law_1811 : decode cL_law 1811 = .ok (.iload_n 3, 1) := dqn_29 (k := 451) qh_cL_law rfl rfl
theorem dL_law_1812 : decode cL_law 1812 = .ok (.iconst 5, 1) := dqn_8 (k := 450) qh_cL_law rfl rfl
theorem dL_law_1813 : decode cL_law 1813 = .ok (.iadd, 1) := dqn_96 (k := 449) qh_cL_law rfl rfl
theorem dL_law_1814 : decode cL_law 1814 = .ok (.iaload, 1) := dqn_46 (k := 448) qh_cL_law rfl rfl
theorem dL_law_1815 : decode cL_law 1815 = .ok (.ifCond .eq 7, 3) := dqn_153 (k := 445) (u := 7) qh_cL_law rfl rfl rfl (sg_p rfl rfl)
theorem dL_law_1818 : decode cL_law 1818 = .ok (.iconst 1, 1) := dqn_4 (k := 444) qh_cL_law rfl rfl
theorem dL_law_1819 : decode cL_law 1819 = .ok (.goto 4, 3) := dqn_167 (k := 441) (u := 4) qh_cL_law rfl rfl rfl (sg_p rfl rfl)
theorem dL_law_1822 : decode cL_law 1822 = .ok (.iconst 0, 1) := dqn_3 (k := 440) qh_cL_law rfl rfl
theorem dL_law_1823 : decode cL_law 1823 = .ok (.invokevirtual 156, 3) := dqn_182 (k := 437) qh_cL_law rfl rfl rfl
theorem dL_law_1826 : decode cL_law 1826 = .ok (.pop2, 1) := dqn_88 (k := 436) qh_cL_law rfl rfl
theorem dL_law_1827 : decode cL_law 1827 = .ok (.aload_n 2, 1) := dqn_44 (k := 435) qh_cL_law rfl rfl
theorem dL_law_1828 : decode cL_law 1828 = .ok (.aload_n 0, 1) := dqn_42 (k := 434) qh_cL_law rfl rfl
theorem dL_law_1829 : decode cL_law 1829 = .ok (.iload_n 3, 1) := dqn_29 (k := 433) qh_cL_law rfl rfl
theorem dL_law_1830 : decode cL_law 1830 = .ok (.iconst 1, 1) := dqn_4 (k := 432) qh_cL_law rfl rfl
theorem dL_law_1831 : decode cL_law 1831 = .ok (.iadd, 1) := dqn_96 (k := 431) qh_cL_law rfl rfl
theorem dL_law_1832 : decode cL_law 1832 = .ok (.iaload, 1) := dqn_46 (k := 430) qh_cL_law rfl rfl
theorem dL_law_1833 : decode cL_law 1833 = .ok (.aload_n 0, 1) := dqn_42 (k := 429) qh_cL_law rfl rfl
theorem dL_law_1834 : decode cL_law 1834 = .ok (.iload_n 3, 1) := dqn_29 (k := 428) qh_cL_law rfl rfl
theorem dL_law_1835 : decode cL_law 1835 = .ok (.iconst 2, 1) := dqn_5 (k := 427) qh_cL_law rfl rfl
theorem dL_law_1836 : decode cL_law 1836 = .ok (.iadd, 1) := dqn_96 (k := 426) qh_cL_law rfl rfl
theorem dL_law_1837 : decode cL_law 1837 = .ok (.iaload, 1) := dqn_46 (k := 425) qh_cL_law rfl rfl
theorem dL_law_1838 : decode cL_law 1838 = .ok (.aload_n 0, 1) := dqn_42 (k := 424) qh_cL_law rfl rfl
theorem dL_law_1839 : decode cL_law 1839 = .ok (.iload_n 3, 1) := dqn_29 (k := 423) qh_cL_law rfl rfl
theorem dL_law_1840 : decode cL_law 1840 = .ok (.iconst 3, 1) := dqn_6 (k := 422) qh_cL_law rfl rfl
theorem dL_law_1841 : decode cL_law 1841 = .ok (.iadd, 1) := dqn_96 (k := 421) qh_cL_law rfl rfl
theorem dL_law_1842 : decode cL_law 1842 = .ok (.iaload, 1) := dqn_46 (k := 420) qh_cL_law rfl rfl
theorem dL_law_1843 : decode cL_law 1843 = .ok (.aload_n 0, 1) := dqn_42 (k := 419) qh_cL_law rfl rfl
theorem dL_law_1844 : decode cL_law 1844 = .ok (.iload_n 3, 1) := dqn_29 (k := 418) qh_cL_law rfl rfl
theorem dL_law_1845 : decode cL_law 1845 = .ok (.iconst 4, 1) := dqn_7 (k := 417) qh_cL_law rfl rfl
theorem dL_law_1846 : decode cL_law 1846 = .ok (.iadd, 1) := dqn_96 (k := 416) qh_cL_law rfl rfl
theorem dL_law_1847 : decode cL_law 1847 = .ok (.iaload, 1) := dqn_46 (k := 415) qh_cL_law rfl rfl
theorem dL_law_1848 : decode cL_law 1848 = .ok (.aload_n 0, 1) := dqn_42 (k := 414) qh_cL_law rfl rfl
theorem dL_law_1849 : decode cL_law 1849 = .ok (.iload_n 3, 1) := dqn_29 (k := 413) qh_cL_law rfl rfl
theorem dL_law_1850 : decode cL_law 1850 = .ok (.iconst 5, 1) := dqn_8 (k := 412) qh_cL_law rfl rfl
theorem dL_law_1851 : decode cL_law 1851 = .ok (.iadd, 1) := dqn_96 (k := 411) qh_cL_law rfl rfl
theorem dL_law_1852 : decode cL_law 1852 = .ok (.iaload, 1) := dqn_46 (k := 410) qh_cL_law rfl rfl
theorem dL_law_1853 : decode cL_law 1853 = .ok (.ifCond .eq 7, 3) := dqn_153 (k := 407) (u := 7) qh_cL_law rfl rfl rfl (sg_p rfl rfl)
theorem dL_law_1856 : decode cL_law 1856 = .ok (.iconst 1, 1) := dqn_4 (k := 406) qh_cL_law rfl rfl
theorem dL_law_1857 : decode cL_law 1857 = .ok (.goto 4, 3) := dqn_167 (k := 403) (u := 4) qh_cL_law rfl rfl rfl (sg_p rfl rfl)
theorem dL_law_1860 : decode cL_law 1860 = .ok (.iconst 0, 1) := dqn_3 (k := 402) qh_cL_law rfl rfl
theorem dL_law_1861 : decode cL_law 1861 = .ok (.invokevirtual 160, 3) := dqn_182 (k := 399) qh_cL_law rfl rfl rfl
theorem dL_law_1864 : decode cL_law 1864 = .ok (.pop2, 1) := dqn_88 (k := 398) qh_cL_law rfl rfl
theorem dL_law_1865 : decode cL_law 1865 = .ok (.goto 390, 3) := dqn_167 (k := 395) (u := 390) qh_cL_law rfl rfl rfl (sg_p rfl rfl)
theorem dL_law_1868 : decode cL_law 1868 = .ok (.aload_n 1, 1) := dqn_43 (k := 394) qh_cL_law rfl rfl
theorem dL_law_1869 : decode cL_law 1869 = .ok (.aload_n 0, 1) := dqn_42 (k := 393) qh_cL_law rfl rfl
theorem dL_law_1870 : decode cL_law 1870 = .ok (.iload_n 3, 1) := dqn_29 (k := 392) qh_cL_law rfl rfl
theorem dL_law_1871 : decode cL_law 1871 = .ok (.iconst 1, 1) := dqn_4 (k := 391) qh_cL_law rfl rfl
theorem dL_law_1872 : decode cL_law 1872 = .ok (.iadd, 1) := dqn_96 (k := 390) qh_cL_law rfl rfl
theorem dL_law_1873 : decode cL_law 1873 = .ok (.iaload, 1) := dqn_46 (k := 389) qh_cL_law rfl rfl
theorem dL_law_1874 : decode cL_law 1874 = .ok (.aload_n 0, 1) := dqn_42 (k := 388) qh_cL_law rfl rfl
theorem dL_law_1875 : decode cL_law 1875 = .ok (.iload_n 3, 1) := dqn_29 (k := 387) qh_cL_law rfl rfl
theorem dL_law_1876 : decode cL_law 1876 = .ok (.iconst 2, 1) := dqn_5 (k := 386) qh_cL_law rfl rfl
theorem dL_law_1877 : decode cL_law 1877 = .ok (.iadd, 1) := dqn_96 (k := 385) qh_cL_law rfl rfl
theorem dL_law_1878 : decode cL_law 1878 = .ok (.iaload, 1) := dqn_46 (k := 384) qh_cL_law rfl rfl
theorem dL_law_1879 : decode cL_law 1879 = .ok (.aload_n 0, 1) := dqn_42 (k := 383) qh_cL_law rfl rfl
theorem dL_law_1880 : decode cL_law 1880 = .ok (.iload_n 3, 1) := dqn_29 (k := 382) qh_cL_law rfl rfl
theorem dL_law_1881 : decode cL_law 1881 = .ok (.iconst 3, 1) := dqn_6 (k := 381) qh_cL_law rfl rfl
theorem dL_law_1882 : decode cL_law 1882 = .ok (.iadd, 1) := dqn_96 (k := 380) qh_cL_law rfl rfl
theorem dL_law_1883 : decode cL_law 1883 = .ok (.iaload, 1) := dqn_46 (k := 379) qh_cL_law rfl rfl
theorem dL_law_1884 : decode cL_law 1884 = .ok (.invokevirtual 161, 3) := dqn_182 (k := 376) qh_cL_law rfl rfl rfl
theorem dL_law_1887 : decode cL_law 1887 = .ok (.pop2, 1) := dqn_88 (k := 375) qh_cL_law rfl rfl
theorem dL_law_1888 : decode cL_law 1888 = .ok (.aload_n 2, 1) := dqn_44 (k := 374) qh_cL_law rfl rfl
theorem dL_law_1889 : decode cL_law 1889 = .ok (.aload_n 0, 1) := dqn_42 (k := 373) qh_cL_law rfl rfl
theorem dL_law_1890 : decode cL_law 1890 = .ok (.iload_n 3, 1) := dqn_29 (k := 372) qh_cL_law rfl rfl
theorem dL_law_1891 : decode cL_law 1891 = .ok (.iconst 1, 1) := dqn_4 (k := 371) qh_cL_law rfl rfl
theorem dL_law_1892 : decode cL_law 1892 = .ok (.iadd, 1) := dqn_96 (k := 370) qh_cL_law rfl rfl
theorem dL_law_1893 : decode cL_law 1893 = .ok (.iaload, 1) := dqn_46 (k := 369) qh_cL_law rfl rfl
theorem dL_law_1894 : decode cL_law 1894 = .ok (.aload_n 0, 1) := dqn_42 (k := 368) qh_cL_law rfl rfl
theorem dL_law_1895 : decode cL_law 1895 = .ok (.iload_n 3, 1) := dqn_29 (k := 367) qh_cL_law rfl rfl
theorem dL_law_1896 : decode cL_law 1896 = .ok (.iconst 2, 1) := dqn_5 (k := 366) qh_cL_law rfl rfl
theorem dL_law_1897 : decode cL_law 1897 = .ok (.iadd, 1) := dqn_96 (k := 365) qh_cL_law rfl rfl
theorem dL_law_1898 : decode cL_law 1898 = .ok (.iaload, 1) := dqn_46 (k := 364) qh_cL_law rfl rfl
theorem dL_law_1899 : decode cL_law 1899 = .ok (.aload_n 0, 1) := dqn_42 (k := 363) qh_cL_law rfl rfl
theorem dL_law_1900 : decode cL_law 1900 = .ok (.iload_n 3, 1) := dqn_29 (k := 362) qh_cL_law rfl rfl
theorem dL_law_1901 : decode cL_law 1901 = .ok (.iconst 3, 1) := dqn_6 (k := 361) qh_cL_law rfl rfl
theorem dL_law_1902 : decode cL_law 1902 = .ok (.iadd, 1) := dqn_96 (k := 360) qh_cL_law rfl rfl
theorem dL_law_1903 : decode cL_law 1903 = .ok (.iaload, 1) := dqn_46 (k := 359) qh_cL_law rfl rfl
theorem dL_law_1904 : decode cL_law 1904 = .ok (.invokevirtual 164, 3) := dqn_182 (k := 356) qh_cL_law rfl rfl rfl
theorem dL_law_1907 : decode cL_law 1907 = .ok (.pop2, 1) := dqn_88 (k := 355) qh_cL_law rfl rfl
theorem dL_law_1908 : decode cL_law 1908 = .ok (.goto 347, 3) := dqn_167 (k := 352) (u := 347) qh_cL_law rfl rfl rfl (sg_p rfl rfl)
theorem dL_law_1911 : decode cL_law 1911 = .ok (.aload_n 1, 1) := dqn_43 (k := 351) qh_cL_law rfl rfl
theorem dL_law_1912 : decode cL_law 1912 = .ok (.aload_n 0, 1) := dqn_42 (k := 350) qh_cL_law rfl rfl
theorem dL_law_1913 : decode cL_law 1913 = .ok (.iload_n 3, 1) := dqn_29 (k := 349) qh_cL_law rfl rfl
theorem dL_law_1914 : decode cL_law 1914 = .ok (.iconst 1, 1) := dqn_4 (k := 348) qh_cL_law rfl rfl
theorem dL_law_1915 : decode cL_law 1915 = .ok (.iadd, 1) := dqn_96 (k := 347) qh_cL_law rfl rfl
theorem dL_law_1916 : decode cL_law 1916 = .ok (.iaload, 1) := dqn_46 (k := 346) qh_cL_law rfl rfl
theorem dL_law_1917 : decode cL_law 1917 = .ok (.aload_n 0, 1) := dqn_42 (k := 345) qh_cL_law rfl rfl
theorem dL_law_1918 : decode cL_law 1918 = .ok (.iload_n 3, 1) := dqn_29 (k := 344) qh_cL_law rfl rfl
theorem dL_law_1919 : decode cL_law 1919 = .ok (.iconst 2, 1) := dqn_5 (k := 343) qh_cL_law rfl rfl
theorem dL_law_1920 : decode cL_law 1920 = .ok (.iadd, 1) := dqn_96 (k := 342) qh_cL_law rfl rfl
theorem dL_law_1921 : decode cL_law 1921 = .ok (.iaload, 1) := dqn_46 (k := 341) qh_cL_law rfl rfl
theorem dL_law_1922 : decode cL_law 1922 = .ok (.invokevirtual 165, 3) := dqn_182 (k := 338) qh_cL_law rfl rfl rfl
theorem dL_law_1925 : decode cL_law 1925 = .ok (.pop, 1) := dqn_87 (k := 337) qh_cL_law rfl rfl
theorem dL_law_1926 : decode cL_law 1926 = .ok (.aload_n 2, 1) := dqn_44 (k := 336) qh_cL_law rfl rfl
theorem dL_law_1927 : decode cL_law 1927 = .ok (.aload_n 0, 1) := dqn_42 (k := 335) qh_cL_law rfl rfl
theorem dL_law_1928 : decode cL_law 1928 = .ok (.iload_n 3, 1) := dqn_29 (k := 334) qh_cL_law rfl rfl
theorem dL_law_1929 : decode cL_law 1929 = .ok (.iconst 1, 1) := dqn_4 (k := 333) qh_cL_law rfl rfl
theorem dL_law_1930 : decode cL_law 1930 = .ok (.iadd, 1) := dqn_96 (k := 332) qh_cL_law rfl rfl
theorem dL_law_1931 : decode cL_law 1931 = .ok (.iaload, 1) := dqn_46 (k := 331) qh_cL_law rfl rfl
theorem dL_law_1932 : decode cL_law 1932 = .ok (.aload_n 0, 1) := dqn_42 (k := 330) qh_cL_law rfl rfl
theorem dL_law_1933 : decode cL_law 1933 = .ok (.iload_n 3, 1) := dqn_29 (k := 329) qh_cL_law rfl rfl
theorem dL_law_1934 : decode cL_law 1934 = .ok (.iconst 2, 1) := dqn_5 (k := 328) qh_cL_law rfl rfl
theorem dL_law_1935 : decode cL_law 1935 = .ok (.iadd, 1) := dqn_96 (k := 327) qh_cL_law rfl rfl
theorem dL_law_1936 : decode cL_law 1936 = .ok (.iaload, 1) := dqn_46 (k := 326) qh_cL_law rfl rfl
theorem dL_law_1937 : decode cL_law 1937 = .ok (.invokevirtual 168, 3) := dqn_182 (k := 323) qh_cL_law rfl rfl rfl
theorem dL_law_1940 : decode cL_law 1940 = .ok (.pop, 1) := dqn_87 (k := 322) qh_cL_law rfl rfl
theorem dL_law_1941 : decode cL_law 1941 = .ok (.goto 314, 3) := dqn_167 (k := 319) (u := 314) qh_cL_law rfl rfl rfl (sg_p rfl rfl)
theorem dL_law_1944 : decode cL_law 1944 = .ok (.aload_n 1, 1) := dqn_43 (k := 318) qh_cL_law rfl rfl
theorem dL_law_1945 : decode cL_law 1945 = .ok (.aload_n 0, 1) := dqn_42 (k := 317) qh_cL_law rfl rfl
theorem dL_law_1946 : decode cL_law 1946 = .ok (.iload_n 3, 1) := dqn_29 (k := 316) qh_cL_law rfl rfl
theorem dL_law_1947 : decode cL_law 1947 = .ok (.iconst 1, 1) := dqn_4 (k := 315) qh_cL_law rfl rfl
theorem dL_law_1948 : decode cL_law 1948 = .ok (.iadd, 1) := dqn_96 (k := 314) qh_cL_law rfl rfl
theorem dL_law_1949 : decode cL_law 1949 = .ok (.iaload, 1) := dqn_46 (k := 313) qh_cL_law rfl rfl
theorem dL_law_1950 : decode cL_law 1950 = .ok (.aload_n 0, 1) := dqn_42 (k := 312) qh_cL_law rfl rfl
theorem dL_law_1951 : decode cL_law 1951 = .ok (.iload_n 3, 1) := dqn_29 (k := 311) qh_cL_law rfl rfl
theorem dL_law_1952 : decode cL_law 1952 = .ok (.iconst 2, 1) := dqn_5 (k := 310) qh_cL_law rfl rfl
theorem dL_law_1953 : decode cL_law 1953 = .ok (.iadd, 1) := dqn_96 (k := 309) qh_cL_law rfl rfl
theorem dL_law_1954 : decode cL_law 1954 = .ok (.iaload, 1) := dqn_46 (k := 308) qh_cL_law rfl rfl
theorem dL_law_1955 : decode cL_law 1955 = .ok (.aload_n 0, 1) := dqn_42 (k := 307) qh_cL_law rfl rfl
theorem dL_law_1956 : decode cL_law 1956 = .ok (.iload_n 3, 1) := dqn_29 (k := 306) qh_cL_law rfl rfl
theorem dL_law_1957 : decode cL_law 1957 = .ok (.iconst 3, 1) := dqn_6 (k := 305) qh_cL_law rfl rfl
theorem dL_law_1958 : decode cL_law 1958 = .ok (.iadd, 1) := dqn_96 (k := 304) qh_cL_law rfl rfl
theorem dL_law_1959 : decode cL_law 1959 = .ok (.iaload, 1) := dqn_46 (k := 303) qh_cL_law rfl rfl
theorem dL_law_1960 : decode cL_law 1960 = .ok (.ifCond .eq 7, 3) := dqn_153 (k := 300) (u := 7) qh_cL_law rfl rfl rfl (sg_p rfl rfl)
theorem dL_law_1963 : decode cL_law 1963 = .ok (.iconst 1, 1) := dqn_4 (k := 299) qh_cL_law rfl rfl
theorem dL_law_1964 : decode cL_law 1964 = .ok (.goto 4, 3) := dqn_167 (k := 296) (u := 4) qh_cL_law rfl rfl rfl (sg_p rfl rfl)
theorem dL_law_1967 : decode cL_law 1967 = .ok (.iconst 0, 1) := dqn_3 (k := 295) qh_cL_law rfl rfl
theorem dL_law_1968 : decode cL_law 1968 = .ok (.invokevirtual 169, 3) := dqn_182 (k := 292) qh_cL_law rfl rfl rfl
theorem dL_law_1971 : decode cL_law 1971 = .ok (.pop, 1) := dqn_87 (k := 291) qh_cL_law rfl rfl
theorem dL_law_1972 : decode cL_law 1972 = .ok (.aload_n 2, 1) := dqn_44 (k := 290) qh_cL_law rfl rfl
theorem dL_law_1973 : decode cL_law 1973 = .ok (.aload_n 0, 1) := dqn_42 (k := 289) qh_cL_law rfl rfl
theorem dL_law_1974 : decode cL_law 1974 = .ok (.iload_n 3, 1) := dqn_29 (k := 288) qh_cL_law rfl rfl
theorem dL_law_1975 : decode cL_law 1975 = .ok (.iconst 1, 1) := dqn_4 (k := 287) qh_cL_law rfl rfl
theorem dL_law_1976 : decode cL_law 1976 = .ok (.iadd, 1) := dqn_96 (k := 286) qh_cL_law rfl rfl
theorem dL_law_1977 : decode cL_law 1977 = .ok (.iaload, 1) := dqn_46 (k := 285) qh_cL_law rfl rfl
theorem dL_law_1978 : decode cL_law 1978 = .ok (.aload_n 0, 1) := dqn_42 (k := 284) qh_cL_law rfl rfl
theorem dL_law_1979 : decode cL_law 1979 = .ok (.iload_n 3, 1) := dqn_29 (k := 283) qh_cL_law rfl rfl
theorem dL_law_1980 : decode cL_law 1980 = .ok (.iconst 2, 1) := dqn_5 (k := 282) qh_cL_law rfl rfl
theorem dL_law_1981 : decode cL_law 1981 = .ok (.iadd, 1) := dqn_96 (k := 281) qh_cL_law rfl rfl
theorem dL_law_1982 : decode cL_law 1982 = .ok (.iaload, 1) := dqn_46 (k := 280) qh_cL_law rfl rfl
theorem dL_law_1983 : decode cL_law 1983 = .ok (.aload_n 0, 1) := dqn_42 (k := 279) qh_cL_law rfl rfl
theorem dL_law_1984 : decode cL_law 1984 = .ok (.iload_n 3, 1) := dqn_29 (k := 278) qh_cL_law rfl rfl
theorem dL_law_1985 : decode cL_law 1985 = .ok (.iconst 3, 1) := dqn_6 (k := 277) qh_cL_law rfl rfl
theorem dL_law_1986 : decode cL_law 1986 = .ok (.iadd, 1) := dqn_96 (k := 276) qh_cL_law rfl rfl
theorem dL_law_1987 : decode cL_law 1987 = .ok (.iaload, 1) := dqn_46 (k := 275) qh_cL_law rfl rfl
theorem dL_law_1988 : decode cL_law 1988 = .ok (.ifCond .eq 7, 3) := dqn_153 (k := 272) (u := 7) qh_cL_law rfl rfl rfl (sg_p rfl rfl)
theorem dL_law_1991 : decode cL_law 1991 = .ok (.iconst 1, 1) := dqn_4 (k := 271) qh_cL_law rfl rfl
theorem dL_law_1992 : decode cL_law 1992 = .ok (.goto 4, 3) := dqn_167 (k := 268) (u := 4) qh_cL_law rfl rfl rfl (sg_p rfl rfl)
theorem dL_law_1995 : decode cL_law 1995 = .ok (.iconst 0, 1) := dqn_3 (k := 267) qh_cL_law rfl rfl
theorem dL_law_1996 : decode cL_law 1996 = .ok (.invokevirtual 173, 3) := dqn_182 (k := 264) qh_cL_law rfl rfl rfl
theorem dL_law_1999 : decode cL_law 1999 = .ok (.pop, 1) := dqn_87 (k := 263) qh_cL_law rfl rfl
theorem dL_law_2000 : decode cL_law 2000 = .ok (.goto 255, 3) := dqn_167 (k := 260) (u := 255) qh_cL_law rfl rfl rfl (sg_p rfl rfl)
theorem dL_law_2003 : decode cL_law 2003 = .ok (.aload_n 1, 1) := dqn_43 (k := 259) qh_cL_law rfl rfl
theorem dL_law_2004 : decode cL_law 2004 = .ok (.aload_n 0, 1) := dqn_42 (k := 258) qh_cL_law rfl rfl
theorem dL_law_2005 : decode cL_law 2005 = .ok (.iload_n 3, 1) := dqn_29 (k := 257) qh_cL_law rfl rfl
theorem dL_law_2006 : decode cL_law 2006 = .ok (.iconst 1, 1) := dqn_4 (k := 256) qh_cL_law rfl rfl
theorem dL_law_2007 : decode cL_law 2007 = .ok (.iadd, 1) := dqn_96 (k := 255) qh_cL_law rfl rfl
theorem dL_law_2008 : decode cL_law 2008 = .ok (.iaload, 1) := dqn_46 (k := 254) qh_cL_law rfl rfl
theorem dL_law_2009 : decode cL_law 2009 = .ok (.aload_n 0, 1) := dqn_42 (k := 253) qh_cL_law rfl rfl
theorem dL_law_2010 : decode cL_law 2010 = .ok (.iload_n 3, 1) := dqn_29 (k := 252) qh_cL_law rfl rfl
theorem dL_law_2011 : decode cL_law 2011 = .ok (.iconst 2, 1) := dqn_5 (k := 251) qh_cL_law rfl rfl
theorem dL_law_2012 : decode cL_law 2012 = .ok (.iadd, 1) := dqn_96 (k := 250) qh_cL_law rfl rfl
theorem dL_law_2013 : decode cL_law 2013 = .ok (.iaload, 1) := dqn_46 (k := 249) qh_cL_law rfl rfl
theorem dL_law_2014 : decode cL_law 2014 = .ok (.aload_n 0, 1) := dqn_42 (k := 248) qh_cL_law rfl rfl
theorem dL_law_2015 : decode cL_law 2015 = .ok (.iload_n 3, 1) := dqn_29 (k := 247) qh_cL_law rfl rfl
theorem dL_law_2016 : decode cL_law 2016 = .ok (.iconst 3, 1) := dqn_6 (k := 246) qh_cL_law rfl rfl
theorem dL_law_2017 : decode cL_law 2017 = .ok (.iadd, 1) := dqn_96 (k := 245) qh_cL_law rfl rfl
theorem dL_law_2018 : decode cL_law 2018 = .ok (.iaload, 1) := dqn_46 (k := 244) qh_cL_law rfl rfl
theorem dL_law_2019 : decode cL_law 2019 = .ok (.aload_n 0, 1) := dqn_42 (k := 243) qh_cL_law rfl rfl
theorem dL_law_2020 : decode cL_law 2020 = .ok (.iload_n 3, 1) := dqn_29 (k := 242) qh_cL_law rfl rfl
theorem dL_law_2021 : decode cL_law 2021 = .ok (.iconst 4, 1) := dqn_7 (k := 241) qh_cL_law rfl rfl
theorem dL_law_2022 : decode cL_law 2022 = .ok (.iadd, 1) := dqn_96 (k := 240) qh_cL_law rfl rfl
theorem dL_law_2023 : decode cL_law 2023 = .ok (.iaload, 1) := dqn_46 (k := 239) qh_cL_law rfl rfl
theorem dL_law_2024 : decode cL_law 2024 = .ok (.aload_n 0, 1) := dqn_42 (k := 238) qh_cL_law rfl rfl
theorem dL_law_2025 : decode cL_law 2025 = .ok (.iload_n 3, 1) := dqn_29 (k := 237) qh_cL_law rfl rfl
theorem dL_law_2026 : decode cL_law 2026 = .ok (.iconst 5, 1) := dqn_8 (k := 236) qh_cL_law rfl rfl
theorem dL_law_2027 : decode cL_law 2027 = .ok (.iadd, 1) := dqn_96 (k := 235) qh_cL_law rfl rfl
theorem dL_law_2028 : decode cL_law 2028 = .ok (.iaload, 1) := dqn_46 (k := 234) qh_cL_law rfl rfl
theorem dL_law_2029 : decode cL_law 2029 = .ok (.aload_n 0, 1) := dqn_42 (k := 233) qh_cL_law rfl rfl
theorem dL_law_2030 : decode cL_law 2030 = .ok (.iload_n 3, 1) := dqn_29 (k := 232) qh_cL_law rfl rfl
theorem dL_law_2031 : decode cL_law 2031 = .ok (.bipush 6, 2) := dqn_16 (k := 230) (u := 6) qh_cL_law rfl rfl rfl (by decide)
theorem dL_law_2033 : decode cL_law 2033 = .ok (.iadd, 1) := dqn_96 (k := 229) qh_cL_law rfl rfl
theorem dL_law_2034 : decode cL_law 2034 = .ok (.iaload, 1) := dqn_46 (k := 228) qh_cL_law rfl rfl
theorem dL_law_2035 : decode cL_law 2035 = .ok (.aload_n 0, 1) := dqn_42 (k := 227) qh_cL_law rfl rfl
theorem dL_law_2036 : decode cL_law 2036 = .ok (.iload_n 3, 1) := dqn_29 (k := 226) qh_cL_law rfl rfl
theorem dL_law_2037 : decode cL_law 2037 = .ok (.bipush 7, 2) := dqn_16 (k := 224) (u := 7) qh_cL_law rfl rfl rfl (by decide)
theorem dL_law_2039 : decode cL_law 2039 = .ok (.iadd, 1) := dqn_96 (k := 223) qh_cL_law rfl rfl
theorem dL_law_2040 : decode cL_law 2040 = .ok (.iaload, 1) := dqn_46 (k := 222) qh_cL_law rfl rfl
theorem dL_law_2041 : decode cL_law 2041 = .ok (.invokevirtual 174, 3) := dqn_182 (k := 219) qh_cL_law rfl rfl rfl
theorem dL_law_2044 : decode cL_law 2044 = .ok (.pop, 1) := dqn_87 (k := 218) qh_cL_law rfl rfl
theorem dL_law_2045 : decode cL_law 2045 = .ok (.aload_n 2, 1) := dqn_44 (k := 217) qh_cL_law rfl rfl
theorem dL_law_2046 : decode cL_law 2046 = .ok (.aload_n 0, 1) := dqn_42 (k := 216) qh_cL_law rfl rfl
theorem dL_law_2047 : decode cL_law 2047 = .ok (.iload_n 3, 1) := dqn_29 (k := 215) qh_cL_law rfl rfl
theorem dL_law_2048 : decode cL_law 2048 = .ok (.iconst 1, 1) := dqn_4 (k := 214) qh_cL_law rfl rfl
theorem dL_law_2049 : decode cL_law 2049 = .ok (.iadd, 1) := dqn_96 (k := 213) qh_cL_law rfl rfl
theorem dL_law_2050 : decode cL_law 2050 = .ok (.iaload, 1) := dqn_46 (k := 212) qh_cL_law rfl rfl
theorem dL_law_2051 : decode cL_law 2051 = .ok (.aload_n 0, 1) := dqn_42 (k := 211) qh_cL_law rfl rfl
theorem dL_law_2052 : decode cL_law 2052 = .ok (.iload_n 3, 1) := dqn_29 (k := 210) qh_cL_law rfl rfl
theorem dL_law_2053 : decode cL_law 2053 = .ok (.iconst 2, 1) := dqn_5 (k := 209) qh_cL_law rfl rfl
theorem dL_law_2054 : decode cL_law 2054 = .ok (.iadd, 1) := dqn_96 (k := 208) qh_cL_law rfl rfl
theorem dL_law_2055 : decode cL_law 2055 = .ok (.iaload, 1) := dqn_46 (k := 207) qh_cL_law rfl rfl
theorem dL_law_2056 : decode cL_law 2056 = .ok (.aload_n 0, 1) := dqn_42 (k := 206) qh_cL_law rfl rfl
theorem dL_law_2057 : decode cL_law 2057 = .ok (.iload_n 3, 1) := dqn_29 (k := 205) qh_cL_law rfl rfl
theorem dL_law_2058 : decode cL_law 2058 = .ok (.iconst 3, 1) := dqn_6 (k := 204) qh_cL_law rfl rfl
theorem dL_law_2059 : decode cL_law 2059 = .ok (.iadd, 1) := dqn_96 (k := 203) qh_cL_law rfl rfl
theorem dL_law_2060 : decode cL_law 2060 = .ok (.iaload, 1) := dqn_46 (k := 202) qh_cL_law rfl rfl
theorem dL_law_2061 : decode cL_law 2061 = .ok (.aload_n 0, 1) := dqn_42 (k := 201) qh_cL_law rfl rfl
theorem dL_law_2062 : decode cL_law 2062 = .ok (.iload_n 3, 1) := dqn_29 (k := 200) qh_cL_law rfl rfl
theorem dL_law_2063 : decode cL_law 2063 = .ok (.iconst 4, 1) := dqn_7 (k := 199) qh_cL_law rfl rfl
theorem dL_law_2064 : decode cL_law 2064 = .ok (.iadd, 1) := dqn_96 (k := 198) qh_cL_law rfl rfl
theorem dL_law_2065 : decode cL_law 2065 = .ok (.iaload, 1) := dqn_46 (k := 197) qh_cL_law rfl rfl
theorem dL_law_2066 : decode cL_law 2066 = .ok (.aload_n 0, 1) := dqn_42 (k := 196) qh_cL_law rfl rfl
theorem dL_law_2067 : decode cL_law 2067 = .ok (.iload_n 3, 1) := dqn_29 (k := 195) qh_cL_law rfl rfl
theorem dL_law_2068 : decode cL_law 2068 = .ok (.iconst 5, 1) := dqn_8 (k := 194) qh_cL_law rfl rfl
theorem dL_law_2069 : decode cL_law 2069 = .ok (.iadd, 1) := dqn_96 (k := 193) qh_cL_law rfl rfl
theorem dL_law_2070 : decode cL_law 2070 = .ok (.iaload, 1) := dqn_46 (k := 192) qh_cL_law rfl rfl
theorem dL_law_2071 : decode cL_law 2071 = .ok (.aload_n 0, 1) := dqn_42 (k := 191) qh_cL_law rfl rfl
theorem dL_law_2072 : decode cL_law 2072 = .ok (.iload_n 3, 1) := dqn_29 (k := 190) qh_cL_law rfl rfl
theorem dL_law_2073 : decode cL_law 2073 = .ok (.bipush 6, 2) := dqn_16 (k := 188) (u := 6) qh_cL_law rfl rfl rfl (by decide)
theorem dL_law_2075 : decode cL_law 2075 = .ok (.iadd, 1) := dqn_96 (k := 187) qh_cL_law rfl rfl
theorem dL_law_2076 : decode cL_law 2076 = .ok (.iaload, 1) := dqn_46 (k := 186) qh_cL_law rfl rfl
theorem dL_law_2077 : decode cL_law 2077 = .ok (.aload_n 0, 1) := dqn_42 (k := 185) qh_cL_law rfl rfl
theorem dL_law_2078 : decode cL_law 2078 = .ok (.iload_n 3, 1) := dqn_29 (k := 184) qh_cL_law rfl rfl
theorem dL_law_2079 : decode cL_law 2079 = .ok (.bipush 7, 2) := dqn_16 (k := 182) (u := 7) qh_cL_law rfl rfl rfl (by decide)
theorem dL_law_2081 : decode cL_law 2081 = .ok (.iadd, 1) := dqn_96 (k := 181) qh_cL_law rfl rfl
theorem dL_law_2082 : decode cL_law 2082 = .ok (.iaload, 1) := dqn_46 (k := 180) qh_cL_law rfl rfl
theorem dL_law_2083 : decode cL_law 2083 = .ok (.invokevirtual 178, 3) := dqn_182 (k := 177) qh_cL_law rfl rfl rfl
theorem dL_law_2086 : decode cL_law 2086 = .ok (.pop, 1) := dqn_87 (k := 176) qh_cL_law rfl rfl
theorem dL_law_2087 : decode cL_law 2087 = .ok (.goto 168, 3) := dqn_167 (k := 173) (u := 168) qh_cL_law rfl rfl rfl (sg_p rfl rfl)
theorem dL_law_2090 : decode cL_law 2090 = .ok (.aload_n 1, 1) := dqn_43 (k := 172) qh_cL_law rfl rfl
theorem dL_law_2091 : decode cL_law 2091 = .ok (.aload_n 0, 1) := dqn_42 (k := 171) qh_cL_law rfl rfl
theorem dL_law_2092 : decode cL_law 2092 = .ok (.iload_n 3, 1) := dqn_29 (k := 170) qh_cL_law rfl rfl
theorem dL_law_2093 : decode cL_law 2093 = .ok (.iconst 1, 1) := dqn_4 (k := 169) qh_cL_law rfl rfl
theorem dL_law_2094 : decode cL_law 2094 = .ok (.iadd, 1) := dqn_96 (k := 168) qh_cL_law rfl rfl
theorem dL_law_2095 : decode cL_law 2095 = .ok (.iaload, 1) := dqn_46 (k := 167) qh_cL_law rfl rfl
theorem dL_law_2096 : decode cL_law 2096 = .ok (.aload_n 0, 1) := dqn_42 (k := 166) qh_cL_law rfl rfl
theorem dL_law_2097 : decode cL_law 2097 = .ok (.iload_n 3, 1) := dqn_29 (k := 165) qh_cL_law rfl rfl
theorem dL_law_2098 : decode cL_law 2098 = .ok (.iconst 2, 1) := dqn_5 (k := 164) qh_cL_law rfl rfl
theorem dL_law_2099 : decode cL_law 2099 = .ok (.iadd, 1) := dqn_96 (k := 163) qh_cL_law rfl rfl
theorem dL_law_2100 : decode cL_law 2100 = .ok (.iaload, 1) := dqn_46 (k := 162) qh_cL_law rfl rfl
theorem dL_law_2101 : decode cL_law 2101 = .ok (.aload_n 0, 1) := dqn_42 (k := 161) qh_cL_law rfl rfl
theorem dL_law_2102 : decode cL_law 2102 = .ok (.iload_n 3, 1) := dqn_29 (k := 160) qh_cL_law rfl rfl
theorem dL_law_2103 : decode cL_law 2103 = .ok (.iconst 3, 1) := dqn_6 (k := 159) qh_cL_law rfl rfl
theorem dL_law_2104 : decode cL_law 2104 = .ok (.iadd, 1) := dqn_96 (k := 158) qh_cL_law rfl rfl
theorem dL_law_2105 : decode cL_law 2105 = .ok (.iaload, 1) := dqn_46 (k := 157) qh_cL_law rfl rfl
theorem dL_law_2106 : decode cL_law 2106 = .ok (.invokevirtual 179, 3) := dqn_182 (k := 154) qh_cL_law rfl rfl rfl
theorem dL_law_2109 : decode cL_law 2109 = .ok (.pop, 1) := dqn_87 (k := 153) qh_cL_law rfl rfl
theorem dL_law_2110 : decode cL_law 2110 = .ok (.aload_n 2, 1) := dqn_44 (k := 152) qh_cL_law rfl rfl
theorem dL_law_2111 : decode cL_law 2111 = .ok (.aload_n 0, 1) := dqn_42 (k := 151) qh_cL_law rfl rfl
theorem dL_law_2112 : decode cL_law 2112 = .ok (.iload_n 3, 1) := dqn_29 (k := 150) qh_cL_law rfl rfl
theorem dL_law_2113 : decode cL_law 2113 = .ok (.iconst 1, 1) := dqn_4 (k := 149) qh_cL_law rfl rfl
theorem dL_law_2114 : decode cL_law 2114 = .ok (.iadd, 1) := dqn_96 (k := 148) qh_cL_law rfl rfl
theorem dL_law_2115 : decode cL_law 2115 = .ok (.iaload, 1) := dqn_46 (k := 147) qh_cL_law rfl rfl
theorem dL_law_2116 : decode cL_law 2116 = .ok (.aload_n 0, 1) := dqn_42 (k := 146) qh_cL_law rfl rfl
theorem dL_law_2117 : decode cL_law 2117 = .ok (.iload_n 3, 1) := dqn_29 (k := 145) qh_cL_law rfl rfl
theorem dL_law_2118 : decode cL_law 2118 = .ok (.iconst 2, 1) := dqn_5 (k := 144) qh_cL_law rfl rfl
theorem dL_law_2119 : decode cL_law 2119 = .ok (.iadd, 1) := dqn_96 (k := 143) qh_cL_law rfl rfl
theorem dL_law_2120 : decode cL_law 2120 = .ok (.iaload, 1) := dqn_46 (k := 142) qh_cL_law rfl rfl
theorem dL_law_2121 : decode cL_law 2121 = .ok (.aload_n 0, 1) := dqn_42 (k := 141) qh_cL_law rfl rfl
theorem dL_law_2122 : decode cL_law 2122 = .ok (.iload_n 3, 1) := dqn_29 (k := 140) qh_cL_law rfl rfl
theorem dL_law_2123 : decode cL_law 2123 = .ok (.iconst 3, 1) := dqn_6 (k := 139) qh_cL_law rfl rfl
theorem dL_law_2124 : decode cL_law 2124 = .ok (.iadd, 1) := dqn_96 (k := 138) qh_cL_law rfl rfl
theorem dL_law_2125 : decode cL_law 2125 = .ok (.iaload, 1) := dqn_46 (k := 137) qh_cL_law rfl rfl
theorem dL_law_2126 : decode cL_law 2126 = .ok (.invokevirtual 182, 3) := dqn_182 (k := 134) qh_cL_law rfl rfl rfl
theorem dL_law_2129 : decode cL_law 2129 = .ok (.pop, 1) := dqn_87 (k := 133) qh_cL_law rfl rfl
theorem dL_law_2130 : decode cL_law 2130 = .ok (.goto 125, 3) := dqn_167 (k := 130) (u := 125) qh_cL_law rfl rfl rfl (sg_p rfl rfl)
theorem dL_law_2133 : decode cL_law 2133 = .ok (.aload_n 1, 1) := dqn_43 (k := 129) qh_cL_law rfl rfl
theorem dL_law_2134 : decode cL_law 2134 = .ok (.aload_n 0, 1) := dqn_42 (k := 128) qh_cL_law rfl rfl
theorem dL_law_2135 : decode cL_law 2135 = .ok (.iload_n 3, 1) := dqn_29 (k := 127) qh_cL_law rfl rfl
theorem dL_law_2136 : decode cL_law 2136 = .ok (.iconst 1, 1) := dqn_4 (k := 126) qh_cL_law rfl rfl
theorem dL_law_2137 : decode cL_law 2137 = .ok (.iadd, 1) := dqn_96 (k := 125) qh_cL_law rfl rfl
theorem dL_law_2138 : decode cL_law 2138 = .ok (.iaload, 1) := dqn_46 (k := 124) qh_cL_law rfl rfl
theorem dL_law_2139 : decode cL_law 2139 = .ok (.aload_n 0, 1) := dqn_42 (k := 123) qh_cL_law rfl rfl
theorem dL_law_2140 : decode cL_law 2140 = .ok (.iload_n 3, 1) := dqn_29 (k := 122) qh_cL_law rfl rfl
theorem dL_law_2141 : decode cL_law 2141 = .ok (.iconst 2, 1) := dqn_5 (k := 121) qh_cL_law rfl rfl
theorem dL_law_2142 : decode cL_law 2142 = .ok (.iadd, 1) := dqn_96 (k := 120) qh_cL_law rfl rfl
theorem dL_law_2143 : decode cL_law 2143 = .ok (.iaload, 1) := dqn_46 (k := 119) qh_cL_law rfl rfl
theorem dL_law_2144 : decode cL_law 2144 = .ok (.aload_n 0, 1) := dqn_42 (k := 118) qh_cL_law rfl rfl
theorem dL_law_2145 : decode cL_law 2145 = .ok (.iload_n 3, 1) := dqn_29 (k := 117) qh_cL_law rfl rfl
theorem dL_law_2146 : decode cL_law 2146 = .ok (.iconst 3, 1) := dqn_6 (k := 116) qh_cL_law rfl rfl
theorem dL_law_2147 : decode cL_law 2147 = .ok (.iadd, 1) := dqn_96 (k := 115) qh_cL_law rfl rfl
theorem dL_law_2148 : decode cL_law 2148 = .ok (.iaload, 1) := dqn_46 (k := 114) qh_cL_law rfl rfl
theorem dL_law_2149 : decode cL_law 2149 = .ok (.aload_n 0, 1) := dqn_42 (k := 113) qh_cL_law rfl rfl
theorem dL_law_2150 : decode cL_law 2150 = .ok (.iload_n 3, 1) := dqn_29 (k := 112) qh_cL_law rfl rfl
theorem dL_law_2151 : decode cL_law 2151 = .ok (.iconst 4, 1) := dqn_7 (k := 111) qh_cL_law rfl rfl
theorem dL_law_2152 : decode cL_law 2152 = .ok (.iadd, 1) := dqn_96 (k := 110) qh_cL_law rfl rfl
theorem dL_law_2153 : decode cL_law 2153 = .ok (.iaload, 1) := dqn_46 (k := 109) qh_cL_law rfl rfl
theorem dL_law_2154 : decode cL_law 2154 = .ok (.invokevirtual 183, 3) := dqn_182 (k := 106) qh_cL_law rfl rfl rfl
theorem dL_law_2157 : decode cL_law 2157 = .ok (.aload_n 2, 1) := dqn_44 (k := 105) qh_cL_law rfl rfl
theorem dL_law_2158 : decode cL_law 2158 = .ok (.aload_n 0, 1) := dqn_42 (k := 104) qh_cL_law rfl rfl
theorem dL_law_2159 : decode cL_law 2159 = .ok (.iload_n 3, 1) := dqn_29 (k := 103) qh_cL_law rfl rfl
theorem dL_law_2160 : decode cL_law 2160 = .ok (.iconst 1, 1) := dqn_4 (k := 102) qh_cL_law rfl rfl
theorem dL_law_2161 : decode cL_law 2161 = .ok (.iadd, 1) := dqn_96 (k := 101) qh_cL_law rfl rfl
theorem dL_law_2162 : decode cL_law 2162 = .ok (.iaload, 1) := dqn_46 (k := 100) qh_cL_law rfl rfl
theorem dL_law_2163 : decode cL_law 2163 = .ok (.aload_n 0, 1) := dqn_42 (k := 99) qh_cL_law rfl rfl
theorem dL_law_2164 : decode cL_law 2164 = .ok (.iload_n 3, 1) := dqn_29 (k := 98) qh_cL_law rfl rfl
theorem dL_law_2165 : decode cL_law 2165 = .ok (.iconst 2, 1) := dqn_5 (k := 97) qh_cL_law rfl rfl
theorem dL_law_2166 : decode cL_law 2166 = .ok (.iadd, 1) := dqn_96 (k := 96) qh_cL_law rfl rfl
theorem dL_law_2167 : decode cL_law 2167 = .ok (.iaload, 1) := dqn_46 (k := 95) qh_cL_law rfl rfl
theorem dL_law_2168 : decode cL_law 2168 = .ok (.aload_n 0, 1) := dqn_42 (k := 94) qh_cL_law rfl rfl
theorem dL_law_2169 : decode cL_law 2169 = .ok (.iload_n 3, 1) := dqn_29 (k := 93) qh_cL_law rfl rfl
theorem dL_law_2170 : decode cL_law 2170 = .ok (.iconst 3, 1) := dqn_6 (k := 92) qh_cL_law rfl rfl
theorem dL_law_2171 : decode cL_law 2171 = .ok (.iadd, 1) := dqn_96 (k := 91) qh_cL_law rfl rfl
theorem dL_law_2172 : decode cL_law 2172 = .ok (.iaload, 1) := dqn_46 (k := 90) qh_cL_law rfl rfl
theorem dL_law_2173 : decode cL_law 2173 = .ok (.aload_n 0, 1) := dqn_42 (k := 89) qh_cL_law rfl rfl
theorem dL_law_2174 : decode cL_law 2174 = .ok (.iload_n 3, 1) := dqn_29 (k := 88) qh_cL_law rfl rfl
theorem dL_law_2175 : decode cL_law 2175 = .ok (.iconst 4, 1) := dqn_7 (k := 87) qh_cL_law rfl rfl
theorem dL_law_2176 : decode cL_law 2176 = .ok (.iadd, 1) := dqn_96 (k := 86) qh_cL_law rfl rfl
theorem dL_law_2177 : decode cL_law 2177 = .ok (.iaload, 1) := dqn_46 (k := 85) qh_cL_law rfl rfl
theorem dL_law_2178 : decode cL_law 2178 = .ok (.invokevirtual 186, 3) := dqn_182 (k := 82) qh_cL_law rfl rfl rfl
theorem dL_law_2181 : decode cL_law 2181 = .ok (.if_icmp .eq 74, 3) := dqn_159 (k := 79) (u := 74) qh_cL_law rfl rfl rfl (sg_p rfl rfl)
theorem dL_law_2186 : decode cL_law 2186 = .ok (.aload_n 1, 1) := dqn_43 (k := 76) qh_cL_law rfl rfl
theorem dL_law_2187 : decode cL_law 2187 = .ok (.aload_n 0, 1) := dqn_42 (k := 75) qh_cL_law rfl rfl
theorem dL_law_2188 : decode cL_law 2188 = .ok (.iload_n 3, 1) := dqn_29 (k := 74) qh_cL_law rfl rfl
theorem dL_law_2189 : decode cL_law 2189 = .ok (.iconst 1, 1) := dqn_4 (k := 73) qh_cL_law rfl rfl
theorem dL_law_2190 : decode cL_law 2190 = .ok (.iadd, 1) := dqn_96 (k := 72) qh_cL_law rfl rfl
theorem dL_law_2191 : decode cL_law 2191 = .ok (.iaload, 1) := dqn_46 (k := 71) qh_cL_law rfl rfl
theorem dL_law_2192 : decode cL_law 2192 = .ok (.invokevirtual 187, 3) := dqn_182 (k := 68) qh_cL_law rfl rfl rfl
theorem dL_law_2195 : decode cL_law 2195 = .ok (.pop, 1) := dqn_87 (k := 67) qh_cL_law rfl rfl
theorem dL_law_2196 : decode cL_law 2196 = .ok (.aload_n 2, 1) := dqn_44 (k := 66) qh_cL_law rfl rfl
theorem dL_law_2197 : decode cL_law 2197 = .ok (.aload_n 0, 1) := dqn_42 (k := 65) qh_cL_law rfl rfl
theorem dL_law_2198 : decode cL_law 2198 = .ok (.iload_n 3, 1) := dqn_29 (k := 64) qh_cL_law rfl rfl
theorem dL_law_2199 : decode cL_law 2199 = .ok (.iconst 1, 1) := dqn_4 (k := 63) qh_cL_law rfl rfl
theorem dL_law_2200 : decode cL_law 2200 = .ok (.iadd, 1) := dqn_96 (k := 62) qh_cL_law rfl rfl
theorem dL_law_2201 : decode cL_law 2201 = .ok (.iaload, 1) := dqn_46 (k := 61) qh_cL_law rfl rfl
theorem dL_law_2202 : decode cL_law 2202 = .ok (.invokevirtual 190, 3) := dqn_182 (k := 58) qh_cL_law rfl rfl rfl
theorem dL_law_2205 : decode cL_law 2205 = .ok (.pop, 1) := dqn_87 (k := 57) qh_cL_law rfl rfl
theorem dL_law_2206 : decode cL_law 2206 = .ok (.goto 49, 3) := dqn_167 (k := 54) (u := 49) qh_cL_law rfl rfl rfl (sg_p rfl rfl)
theorem dL_law_2209 : decode cL_law 2209 = .ok (.aload_n 1, 1) := dqn_43 (k := 53) qh_cL_law rfl rfl
theorem dL_law_2210 : decode cL_law 2210 = .ok (.aload_n 0, 1) := dqn_42 (k := 52) qh_cL_law rfl rfl
theorem dL_law_2211 : decode cL_law 2211 = .ok (.iload_n 3, 1) := dqn_29 (k := 51) qh_cL_law rfl rfl
theorem dL_law_2212 : decode cL_law 2212 = .ok (.iconst 1, 1) := dqn_4 (k := 50) qh_cL_law rfl rfl
theorem dL_law_2213 : decode cL_law 2213 = .ok (.iadd, 1) := dqn_96 (k := 49) qh_cL_law rfl rfl
theorem dL_law_2214 : decode cL_law 2214 = .ok (.iaload, 1) := dqn_46 (k := 48) qh_cL_law rfl rfl
theorem dL_law_2215 : decode cL_law 2215 = .ok (.invokevirtual 191, 3) := dqn_182 (k := 45) qh_cL_law rfl rfl rfl
theorem dL_law_2218 : decode cL_law 2218 = .ok (.pop, 1) := dqn_87 (k := 44) qh_cL_law rfl rfl
theorem dL_law_2219 : decode cL_law 2219 = .ok (.aload_n 2, 1) := dqn_44 (k := 43) qh_cL_law rfl rfl
theorem dL_law_2220 : decode cL_law 2220 = .ok (.aload_n 0, 1) := dqn_42 (k := 42) qh_cL_law rfl rfl
theorem dL_law_2221 : decode cL_law 2221 = .ok (.iload_n 3, 1) := dqn_29 (k := 41) qh_cL_law rfl rfl
theorem dL_law_2222 : decode cL_law 2222 = .ok (.iconst 1, 1) := dqn_4 (k := 40) qh_cL_law rfl rfl
theorem dL_law_2223 : decode cL_law 2223 = .ok (.iadd, 1) := dqn_96 (k := 39) qh_cL_law rfl rfl
theorem dL_law_2224 : decode cL_law 2224 = .ok (.iaload, 1) := dqn_46 (k := 38) qh_cL_law rfl rfl
theorem dL_law_2225 : decode cL_law 2225 = .ok (.invokevirtual 195, 3) := dqn_182 (k := 35) qh_cL_law rfl rfl rfl
theorem dL_law_2228 : decode cL_law 2228 = .ok (.pop, 1) := dqn_87 (k := 34) qh_cL_law rfl rfl
theorem dL_law_2229 : decode cL_law 2229 = .ok (.goto 26, 3) := dqn_167 (k := 31) (u := 26) qh_cL_law rfl rfl rfl (sg_p rfl rfl)
theorem dL_law_2232 : decode cL_law 2232 = .ok (.aload_n 1, 1) := dqn_43 (k := 30) qh_cL_law rfl rfl
theorem dL_law_2233 : decode cL_law 2233 = .ok (.aload_n 0, 1) := dqn_42 (k := 29) qh_cL_law rfl rfl
theorem dL_law_2234 : decode cL_law 2234 = .ok (.iload_n 3, 1) := dqn_29 (k := 28) qh_cL_law rfl rfl
theorem dL_law_2235 : decode cL_law 2235 = .ok (.iconst 1, 1) := dqn_4 (k := 27) qh_cL_law rfl rfl
theorem dL_law_2236 : decode cL_law 2236 = .ok (.iadd, 1) := dqn_96 (k := 26) qh_cL_law rfl rfl
theorem dL_law_2237 : decode cL_law 2237 = .ok (.iaload, 1) := dqn_46 (k := 25) qh_cL_law rfl rfl
theorem dL_law_2238 : decode cL_law 2238 = .ok (.invokevirtual 196, 3) := dqn_182 (k := 22) qh_cL_law rfl rfl rfl
theorem dL_law_2241 : decode cL_law 2241 = .ok (.pop, 1) := dqn_87 (k := 21) qh_cL_law rfl rfl
theorem dL_law_2242 : decode cL_law 2242 = .ok (.aload_n 2, 1) := dqn_44 (k := 20) qh_cL_law rfl rfl
theorem dL_law_2243 : decode cL_law 2243 = .ok (.aload_n 0, 1) := dqn_42 (k := 19) qh_cL_law rfl rfl
theorem dL_law_2244 : decode cL_law 2244 = .ok (.iload_n 3, 1) := dqn_29 (k := 18) qh_cL_law rfl rfl
theorem dL_law_2245 : decode cL_law 2245 = .ok (.iconst 1, 1) := dqn_4 (k := 17) qh_cL_law rfl rfl
theorem dL_law_2246 : decode cL_law 2246 = .ok (.iadd, 1) := dqn_96 (k := 16) qh_cL_law rfl rfl
theorem dL_law_2247 : decode cL_law 2247 = .ok (.iaload, 1) := dqn_46 (k := 15) qh_cL_law rfl rfl
theorem dL_law_2248 : decode cL_law 2248 = .ok (.invokevirtual 199, 3) := dqn_182 (k := 12) qh_cL_law rfl rfl rfl
theorem dL_law_2251 : decode cL_law 2251 = .ok (.pop, 1) := dqn_87 (k := 11) qh_cL_law rfl rfl
theorem dL_law_2252 : decode cL_law 2252 = .ok (.goto 3, 3) := dqn_167 (k := 8) (u := 3) qh_cL_law rfl rfl rfl (sg_p rfl rfl)
theorem dL_law_2255 : decode cL_law 2255 = .ok (.iinc 3 8, 3) := dqn_132 (k := 5) (u := 8) qh_cL_law rfl rfl rfl rfl (by decide)
theorem dL_law_2258 : decode cL_law 2258 = .ok (.goto (-2240), 3) := dqn_167 (k := 2) (u := 63296) qh_cL_law rfl rfl rfl (sg_n (k := 2240) rfl rfl rfl)
theorem dL_law_2261 : decode cL_law 2261 = .ok (.iconst 1, 1) := dqn_4 (k := 1) qh_cL_law rfl rfl
theorem dL_law_2262 : decode cL_law 2262 = .ok (.ireturn, 1) := dqn_172 (k := 0) qh_cL_law rfl rfl
end
section
/-! the start: static arrays, words -/
def nl : List Cond := flatC narrow_1
theorem nl_bf {args : Array Value} {s : State} (h : (Cond.and given_1 narrow_1).before args s = true) : ∀ c ∈ nl, c.before args s = true := by
  rw [Cond.before_and, Bool.and_eq_true] at h
  exact flat_of_before _ h.2
def sT (i : Nat) : Term := .static RX3 (sNm i) "[I"
def wT (i : Nat) : Term := .string RX3 (120 + 2 * i)
theorem nl_at {i : Nat} {w : Cond} (h : nl[i]? = some w) : w ∈ nl := List.mem_of_getElem? h
def nl_arrI : List Nat := [8, 118, 34, 26, 82, 100]
theorem nl_arr : ∀ i, i < 6 → nl[nl_arrI.getD i 0]? = some (Cond.arrayOf (sT i) .int) := by decide +kernel
def nl_lenI : List Nat := [9, 119, 35, 27, 83, 101]
theorem nl_len : ∀ i, i < 6 → nl[nl_lenI.getD i 0]? = some (Cond.eq (.length (sT i)) (.int (Int32.ofNat (sAr i).length))) := by decide +kernel
def nl_elI : List (List Nat) := [[10, 11, 12, 13, 14, 15, 16, 17, 18, 19, 20, 21, 22, 23, 24], [120, 121, 122, 123, 124, 125, 126, 127, 128, 129, 130, 131, 132, 133, 134], [36, 37, 38, 39, 40, 41, 42, 43, 44, 45, 46, 47, 48, 49, 50, 51, 52, 53, 54, 55, 56, 57, 58, 59, 60, 61, 62, 63, 64, 65, 66, 67, 68, 69, 70, 71, 72, 73, 74, 75, 76, 77, 78, 79, 80], [28, 29, 30, 31, 32], [84, 85, 86, 87, 88, 89, 90, 91, 92, 93, 94, 95, 96, 97, 98], [102, 103, 104, 105, 106, 107, 108, 109, 110, 111, 112, 113, 114, 115, 116]]
theorem nl_el : ∀ i, i < 6 → ∀ j, j < (sAr i).length → nl[(nl_elI.getD i []).getD j 0]? = some (Cond.eq (.elem (sT i) (.int (Int32.ofNat j))) (.int ((sAr i).getD j 0))) := by decide +kernel
theorem nl_cs : nl[2]? = some (Cond.eq (.static "java/lang/String" "COMPACT_STRINGS" "Z") (.int 1)) := by decide +kernel
theorem nl_fm : nl[3]? = some (Cond.isRef (.static "jdk/internal/util/Preconditions" "SIOOBE_FORMATTER" "Ljava/util/function/BiFunction;")) := by decide +kernel
def nl_exI : List Nat := [171, 179, 188, 199, 211, 223, 236, 251, 266, 281, 298, 316, 335, 355, 376, 399, 421, 446]
theorem nl_ex : ∀ i, i < 18 → nl[nl_exI.getD i 0]? = some (Cond.exactly (wT i) "java/lang/String") := by decide +kernel
def nl_coI : List Nat := [172, 180, 189, 200, 212, 224, 237, 252, 267, 282, 299, 317, 336, 356, 377, 400, 422, 447]
theorem nl_co : ∀ i, i < 18 → nl[nl_coI.getD i 0]? = some (Cond.eq (.field (wT i) "java/lang/String" "coder" "B") (.int 0)) := by decide +kernel
def nl_arI : List Nat := [173, 181, 190, 201, 213, 225, 238, 253, 268, 283, 300, 318, 337, 357, 378, 401, 423, 448]
theorem nl_ar : ∀ i, i < 18 → nl[nl_arI.getD i 0]? = some (Cond.arrayOf (.field (wT i) "java/lang/String" "value" "[B") .byte) := by decide +kernel
def nl_leI : List Nat := [174, 182, 191, 202, 214, 226, 239, 254, 269, 284, 301, 319, 338, 358, 379, 402, 424, 449]
theorem nl_le : ∀ i, i < 18 → nl[nl_leI.getD i 0]? = some (Cond.eq (.length (.field (wT i) "java/lang/String" "value" "[B")) (.int (Int32.ofNat (sLn.getD i 0)))) := by decide +kernel
def nl_byI : List (List Nat) := [[175, 176, 177, 178], [183, 184, 185, 186], [192, 193, 194, 195, 196], [203, 204, 205, 206, 207], [215, 216, 217, 218], [227, 228, 229, 230], [240, 241, 242, 243, 244], [255, 256, 257, 258], [270, 271, 272], [285, 286, 287, 288], [302, 303, 304, 305], [320, 321, 322, 323], [339, 340, 341, 342], [359, 360, 361, 362], [380, 381, 382, 383, 384], [403, 404, 405], [425, 426, 427, 428, 429], [450, 451, 452]]
theorem nl_by : ∀ i, i < 18 → ∀ j, j < sLn.getD i 0 → nl[(nl_byI.getD i []).getD j 0]? = some (Cond.eq (.elem (.field (wT i) "java/lang/String" "value" "[B") (.int (Int32.ofNat j))) (.int ((sBy.getD i []).getD j 0))) := by decide +kernel
def nl_neI : List (List Nat) := [[], [187], [197, 198], [208, 209, 210], [219, 220, 221, 222], [231, 232, 233, 234, 235], [245, 246, 247, 248, 249, 250], [259, 260, 261, 262, 263, 264, 265], [273, 274, 275, 276, 277, 278, 279, 280], [289, 290, 291, 292, 293, 294, 295, 296, 297], [306, 307, 308, 309, 310, 311, 312, 313, 314, 315], [324, 325, 326, 327, 328, 329, 330, 331, 332, 333, 334], [343, 344, 345, 346, 347, 348, 349, 350, 351, 352, 353, 354], [363, 364, 365, 366, 367, 368, 369, 370, 371, 372, 373, 374, 375], [385, 386, 387, 388, 389, 390, 391, 392, 393, 394, 395, 396, 397, 398], [406, 407, 408, 409, 410, 411, 412, 413, 414, 415, 416, 417, 418, 419, 420], [430, 431, 432, 433, 434, 435, 436, 437, 438, 439, 440, 441, 442, 443, 444, 445], [453, 454, 455, 456, 457, 458, 459, 460, 461, 462, 463, 464, 465, 466, 467, 468, 469]]
theorem nl_ne : ∀ i, i < 18 → ∀ j, j < i → nl[(nl_neI.getD i []).getD j 0]? = some (Cond.not (Cond.eq (wT j) (wT i))) := by decide +kernel
def tIx : List Nat := [606, 658, 626, 608, 632, 634]
theorem tb_ls : ∀ i, i < 6 → lw_tbl[tIx.getD i 0]? = some (Cond.laysStatic RX3 (sNm i) "[I") := by decide +kernel
theorem tb_in : lw_tbl[91]? = some (Cond.initialized RX3) := by decide +kernel
theorem tb_cs : lw_tbl[562]? = some (Cond.laysStatic "java/lang/String" "COMPACT_STRINGS" "Z") := by decide +kernel
theorem tb_si : lw_tbl[100]? = some (Cond.initialized "java/lang/String") := by decide +kernel
theorem tb_fm : lw_tbl[578]? = some (Cond.laysStatic "jdk/internal/util/Preconditions" "SIOOBE_FORMATTER" "Ljava/util/function/BiFunction;") := by decide +kernel
theorem tb_pi : lw_tbl[102]? = some (Cond.initialized "jdk/internal/util/Preconditions") := by decide +kernel
def rIx : List Nat := [528, 529, 530, 531, 532, 533, 534, 535, 536, 537, 538, 539, 540, 541, 542, 546, 547, 548]
theorem tb_sr : ∀ i, i < 18 → lw_tbl[rIx.getD i 0]? = some (Cond.stringRef RX3 (120 + 2 * i) (sTx i)) := by decide +kernel
theorem start_SS {args : Array Value} {s : State} (b : Nat) (hgv : (Cond.and given_1 narrow_1).before args s = true) (hts : ∀ w ∈ lw_tbl, w.before args s = true) : ∃ ca : Nat → Nat, ca 0 = b ∧ SS ca s.heap.size s := by
  have N := nl_bf hgv
  have T : ∀ {i : Nat} {w : Cond}, lw_tbl[i]? = some w → w.before args s = true := fun h => hts _ (List.mem_of_getElem? h)
  have hA : ∀ a : Nat, a < s.heap.size → ¬ (fun q => s.heap.size ≤ q) a := fun a h q => absurd h (Nat.not_lt.mpr q)
  have h1 : ∀ i, ∃ t : Nat, i < 6 → (sT i).eval args s none [] s = some (.ref t) ∧ va_T .int t (sAr i).length (fun j => .int ((sAr i).getD j 0)) (fun q => s.heap.size ≤ q) s s.heap := by
    intro i
    by_cases hi : i < 6
    · obtain ⟨t, ht, hT⟩ := va_Tof (f := fun j => .int ((sAr i).getD j 0)) (A := fun q => s.heap.size ≤ q) (N := (sAr i).length) ((show ∀ i, i < 6 → (sAr i).length < 2 ^ 31 by decide) i hi) (N _ (nl_at (nl_arr i hi))) (va_eqt (N _ (nl_at (nl_len i hi)))) (fun j hj => va_eqt (N _ (nl_at (nl_el i hi j hj)))) hA
      exact ⟨t, fun _ => ⟨ht, hT⟩⟩
    · exact ⟨0, fun h => absurd h hi⟩
  obtain ⟨ad, had⟩ := Classical.axiomOfChoice h1
  obtain ⟨adK, adV, hS, hK⟩ := vk_Sof (N := 18) (tm := wT) (len := sLn) (byt := sBy) (A := fun q => s.heap.size ≤ q) (by decide) (fun i hi => N _ (nl_at (nl_ex i hi))) (fun i hi => N _ (nl_at (nl_co i hi))) (fun i hi => N _ (nl_at (nl_ar i hi))) (fun i hi => N _ (nl_at (nl_le i hi))) (fun i hi j hj => N _ (nl_at (nl_by i hi j hj))) (fun i j hi hj hij => (Nat.lt_or_gt_of_ne hij).elim (fun q => Or.inl (N _ (nl_at (nl_ne j hj i q)))) (fun q => Or.inr (N _ (nl_at (nl_ne i hi j q))))) hA
  obtain ⟨fv, hf, hr⟩ := Cond.isRef_spec (N _ (nl_at nl_fm))
  obtain ⟨fa, hfa⟩ : ∃ a : Nat, fv = .null ∨ fv = .ref a := by
    cases fv <;> first | exact ⟨_, Or.inr rfl⟩ | exact ⟨0, Or.inl rfl⟩ | exact (nomatch hr)
  refine ⟨fun k => if k = 0 then b else if k < 7 then ad (k - 1) else if k < 40 then adK (k - 10) else if k < 60 then adV (k - 40) else fa, rfl, ?_⟩
  refine ⟨fun i hi => ?_, va_Zof (T tb_cs) (T tb_si) (va_eqt (N _ (nl_at nl_cs))) hA, ?_, fun i hi => ?_, hfa.imp (fun q => va_Zof (T tb_fm) (T tb_pi) (hf.trans (congrArg some q)) hA) (fun q => va_Zof (T tb_fm) (T tb_pi) (hf.trans (congrArg some q)) hA)⟩
  · have e : (if 1 + i = 0 then b else if 1 + i < 7 then ad (1 + i - 1) else if 1 + i < 40 then adK (1 + i - 10) else if 1 + i < 60 then adV (1 + i - 40) else fa) = ad i := by
      rw [if_neg (by omega), if_pos (by omega), Nat.add_sub_cancel_left]
    simp only [e]
    exact ⟨va_Zof (T (tb_ls i hi)) (T tb_in) (had i hi).1 hA, (had i hi).2⟩
  · have e1 : ∀ i, i < 18 → (if 10 + i = 0 then b else if 10 + i < 7 then ad (10 + i - 1) else if 10 + i < 40 then adK (10 + i - 10) else if 10 + i < 60 then adV (10 + i - 40) else fa) = adK i := by
      intro i hi
      rw [if_neg (by omega), if_neg (by omega), if_pos (by omega), Nat.add_sub_cancel_left]
    have e2 : ∀ i, i < 18 → (if 40 + i = 0 then b else if 40 + i < 7 then ad (40 + i - 1) else if 40 + i < 40 then adK (40 + i - 10) else if 40 + i < 60 then adV (40 + i - 40) else fa) = adV i := by
      intro i hi
      rw [if_neg (by omega), if_neg (by omega), if_neg (by omega), if_pos (by omega), Nat.add_sub_cancel_left]
    refine ⟨fun i hi => ?_, fun i j hi hj q => ?_⟩
    · simp only [e1 i hi, e2 i hi]
      exact hS.1 i hi
    · simp only [e1 i hi, e1 j hj] at q
      exact hS.2 i j hi hj q
  · have e1 : (if 10 + i = 0 then b else if 10 + i < 7 then ad (10 + i - 1) else if 10 + i < 40 then adK (10 + i - 10) else if 10 + i < 60 then adV (10 + i - 40) else fa) = adK i := by
      rw [if_neg (by omega), if_neg (by omega), if_pos (by omega), Nat.add_sub_cancel_left]
    simp only [e1]
    exact vk_R.of (T (tb_sr i hi)) (hK i hi)
end
